/-! touch, drawn -/
theorem touch_loop {ns j one much : Nat} (hj : j < ns) (h2 : one < 6) (h3 : much < 10) : ∀ (m k : Nat) (vi vm : VI) (n : Nat), 61 - k = m → k ≤ 61 → R1 ns j 13 vi vm n → ∃ r vi' vm' n', (∀ F, m < F → fX9_touch_45 ns F (nI one) (nI much) (98 + 5 * j) (nI k) vi = some (r, vi')) ∧ (∀ F, m < F → fX10_touch_35 F (nI one) (nI much) (nI k) vm = some (r, vm')) ∧ R1 ns j 13 vi' vm' n' ∧ (∀ a i, ¬ WL 13 a i → vi' a i = vi a i) ∧ ∀ a i, ¬ WQ a i → vm' a i = vm a i := by
  intro m
  induction m with
  | zero =>
    intro k vi vm n q1 q2 q3
    have : k = 61 := by omega
    subst this
    refine ⟨-2, vi, vm, n, fun F hF => ?_, fun F hF => ?_, q3, fun _ _ _ => rfl, fun _ _ _ => rfl⟩
    · obtain ⟨F, rfl⟩ : ∃ F', F = F' + 1 := ⟨F - 1, by omega⟩
      rw [fX9_touch_45, if_pos (by decide)]
    · obtain ⟨F, rfl⟩ : ∃ F', F = F' + 1 := ⟨F - 1, by omega⟩
      rw [fX10_touch_35, if_pos (by decide)]
  | succ m ih =>
    intro k vi vm n q1 q2 q3
    have c : ¬ (60 : Int32) < nI k := by rw [tlt, l60, tnI (by omega)]; omega
    obtain ⟨r0, m1, m2⟩ := most_both q3.2.2.2.2.1
    by_cases c1 : r0 = nI one
    · refine ⟨nI k, vi, vm, n, fun F hF => ?_, fun F hF => ?_, q3, fun _ _ _ => rfl, fun _ _ _ => rfl⟩
      · obtain ⟨F, rfl⟩ : ∃ F', F = F' + 1 := ⟨F - 1, by omega⟩
        rw [fX9_touch_45, if_neg c, m1, Option.bind_some, if_pos c1]
      · obtain ⟨F, rfl⟩ : ∃ F', F = F' + 1 := ⟨F - 1, by omega⟩
        rw [fX10_touch_35, if_neg c, m2, Option.bind_some, if_pos c1]
    · obtain ⟨l, g, vi1, vm1, n1, -, e1, e2, e3, -, -, -, -, -, e4, e5⟩ := lay_both hj (Or.inl rfl) q3 h2 h3
      obtain ⟨r, vi', vm', n', a1, a2, a3, a4, a5⟩ := ih (k + 1) vi1 vm1 n1 (by omega) (by omega) e3
      refine ⟨r, vi', vm', n', fun F hF => ?_, fun F hF => ?_, a3, fun a i q => (a4 a i q).trans (e4 a i q), fun a i q => (a5 a i q).trans (e5 a i q)⟩
      · obtain ⟨F, rfl⟩ : ∃ F', F = F' + 1 := ⟨F - 1, by omega⟩
        rw [fX9_touch_45, if_neg c, m1, Option.bind_some, if_neg c1, e1, Option.bind_some, nI_1]
        exact a1 F (by omega)
      · obtain ⟨F, rfl⟩ : ∃ F', F = F' + 1 := ⟨F - 1, by omega⟩
        rw [fX10_touch_35, if_neg c, m2, Option.bind_some, if_neg c1, e2, Option.bind_some, nI_1]
        exact a2 F (by omega)
theorem agree_ns {ns : Nat} {vi vm : VI} (h : vi 63 1 = nI ns) (hv : Agree vi vm) : vm 63 1 = nI ns := (ag hv 63 1 (by omega)).trans h
theorem p_touch {ns : Nat} {vi : VI} (hl : I_law vi) (hn : I_num ns vi) (hc : I_cache ns vi) (hd : I_dust ns vi) (x1 x2 x3 : Int32) : Thought ns vi (fX9_touch ns x1 x2 x3 vi) (fX10_touch x1 x2 x3) := by
  have h5 := hn.1
  have n1 := hn.2.1
  have n2 := hn.2.2.1
  unfold fX9_touch
  rw [sillAt_eq h5 n1]
  simp only [Option.bind_some, one9_eq, within_eq, decide_eq_true_eq, l9]
  by_cases c : (0 ≤ x1.toInt ∧ x1.toInt < ns) ∧ (0 ≤ x2.toInt ∧ x2.toInt ≤ 5) ∧ (0 ≤ x3.toInt ∧ x3.toInt ≤ 9)
  · obtain ⟨c1, c2, c3⟩ := c
    obtain ⟨j, hj, rfl⟩ := ex_nI c1.1 c1.2 (by omega)
    obtain ⟨p, hp, rfl⟩ := ex_nI (N := 6) c2.1 (by omega) (by omega)
    obtain ⟨q, hq, rfl⟩ := ex_nI (N := 10) c3.1 (by omega) (by omega)
    rw [if_pos c1, nI_clamp (by omega)]
    simp only [optS, if_pos c2, if_pos c3]
    refine thought_of fun vm hv => ?_
    obtain ⟨n, vi1, vm1, a1, a2, a3, a4, a5⟩ := start_R1 hl hn hc hd hj hv
    obtain ⟨r, vi', vm', n', b1, b2, b3, b4, b5⟩ := touch_loop hj hp hq 61 0 vi1 vm1 n (by omega) (by omega) a3
    unfold fX10_touch
    rw [isSill_eq h5 (agree_ns n2 hv), a1, Option.bind_some]
    simp only [Option.bind_some, one10_eq, in_eq, decide_eq_true_eq, l9, l0, if_pos c1, if_pos c2, if_pos c3]
    rw [a2, Option.bind_some]
    exact ⟨r, vi', vm', b1 FU (by rw [FU_eq]; omega), b2 FU (by rw [FU_eq]; omega), b3.2.2.1, fun a i w => (b4 a i w).trans (a4 a i w), fun a i w => (b5 a i w).trans (a5 a i w)⟩
  · refine thought_same (r := -1) hc ?_ fun vm hv => ?_
    · by_cases c1 : 0 ≤ x1.toInt ∧ x1.toInt < ns
      · rw [if_pos c1]
        simp only [optS]
        by_cases c2 : 0 ≤ x2.toInt ∧ x2.toInt ≤ 5
        · rw [if_pos c2, if_neg (fun c3 => c ⟨c1, c2, c3⟩)]
        · rw [if_neg c2]
      · rw [if_neg c1]; rfl
    · unfold fX10_touch
      rw [isSill_eq h5 (agree_ns n2 hv)]
      simp only [Option.bind_some, one10_eq, in_eq, decide_eq_true_eq, l9, l0]
      by_cases c1 : 0 ≤ x1.toInt ∧ x1.toInt < ns
      · rw [if_pos c1]
        by_cases c2 : 0 ≤ x2.toInt ∧ x2.toInt ≤ 5
        · rw [if_pos c2, if_neg (fun c3 => c ⟨c1, c2, c3⟩)]
        · rw [if_neg c2]
      · rw [if_neg c1]
/-- what comes of a draw -/
theorem ndiv (k : Nat) (hk : k < 2147483648) {d : Nat} (h1 : 0 < d) (h2 : d < 1000) : (nI k / nI d : Int32) = nI (k / d) := by
  have ek : (nI k).toInt = k := tnI hk
  have ed : (nI d).toInt = d := tnI (by omega)
  have hle := Nat.div_le_self k d
  have : Int.tdiv (k : Int) d = ((k / d : Nat) : Int) := Int.ofNat_tdiv k d
  generalize k / d = q at hle this ⊢
  rw [teq, Int32.toInt_div, ek, ed, this, Int.bmod_eq_of_le (by omega) (by omega), tnI (by omega)]
theorem umod {u : Int32} (h : 0 ≤ u.toInt) {d : Nat} (h1 : 0 < d) (h2 : d < 1000) : ∃ w, w < d ∧ u - u / nI d * nI d = nI w := by
  obtain ⟨k, hk, rfl⟩ := ex_nI (x := u) (N := 2147483648) h (by have := thi u; omega) (by omega)
  have ek : (nI k).toInt = k := tnI hk
  have ed : (nI d).toInt = d := tnI (by omega)
  have e1 : (nI k / nI d).toInt = ((k / d : Nat) : Int) := by rw [ndiv k hk h1 h2, tnI (by have := Nat.div_le_self k d; omega)]
  have hle : k / d * d ≤ k := Nat.div_mul_le_self k d
  have hmod : k / d * d + k % d = k := Nat.div_add_mod' k d
  have e2 : (nI k / nI d * nI d).toInt = ((k / d * d : Nat) : Int) := by
    rw [tmul (by rw [e1, ed]; have : ((k / d : Nat) : Int) * (d : Int) = ((k / d * d : Nat) : Int) := by simp
                 omega) (by rw [e1, ed]; have : ((k / d : Nat) : Int) * (d : Int) = ((k / d * d : Nat) : Int) := by simp
                            omega), e1, ed]
    simp
  refine ⟨k % d, Nat.mod_lt _ h1, ?_⟩
  rw [teq, tsub (by rw [e2, ek]; omega) (by rw [e2, ek]; omega), e2, ek, tnI (by have := Nat.mod_lt k h1; omega)]
  omega
theorem ushift (z : Int32) {s : Nat} (h1 : 0 < s) (h2 : s < 32) : 0 ≤ ((z.toUInt32 >>> ((nI s).toUInt32 &&& Int32.toUInt32 31)).toInt32).toInt := by
  have e : ((nI s).toUInt32 &&& Int32.toUInt32 31).toNat = s := by
    have all : ∀ s, s < 32 → ((nI s).toUInt32 &&& Int32.toUInt32 31).toNat = s := by decide +kernel
    exact all s h2
  have e2 : (z.toUInt32 >>> ((nI s).toUInt32 &&& Int32.toUInt32 31)).toNat < 2147483648 := by
    rw [UInt32.toNat_shiftRight, e, Nat.mod_eq_of_lt h2, Nat.shiftRight_eq_div_pow]
    have hz := z.toUInt32.toNat_lt
    have : 2 ^ 1 ≤ 2 ^ s := Nat.pow_le_pow_right (by omega) h1
    exact Nat.div_lt_of_lt_mul (by omega)
  generalize (z.toUInt32 >>> ((nI s).toUInt32 &&& Int32.toUInt32 31)) = u at e2
  have : u.toInt32.toInt = (u.toNat : Int) := by
    rw [Int32.toInt, BitVec.toInt_eq_toNat_of_lt]
    · rfl
    · show 2 * u.toNat < 2 ^ 32
      omega
  omega
theorem draw_whom (z : Int32) : ∃ w, w < 6 ∧ ((z.toUInt32 >>> (((8) : Int32).toUInt32 &&& Int32.toUInt32 31)).toInt32) - ((z.toUInt32 >>> (((8) : Int32).toUInt32 &&& Int32.toUInt32 31)).toInt32) / 6 * 6 = nI w := umod (d := 6) (ushift z (s := 8) (by omega) (by omega)) (by omega) (by omega)
theorem draw_much (z : Int32) : ∃ w, w < 10 ∧ ((z.toUInt32 >>> (((16) : Int32).toUInt32 &&& Int32.toUInt32 31)).toInt32) - ((z.toUInt32 >>> (((16) : Int32).toUInt32 &&& Int32.toUInt32 31)).toInt32) / 10 * 10 = nI w := umod (d := 10) (ushift z (s := 16) (by omega) (by omega)) (by omega) (by omega)
def sumIs (x s a b : Int32) : Prop := (x = -1 ∧ s = a) ∨ (x ≠ -1 ∧ s = b)
theorem day_loop {ns j R : Nat} {x2 x3 x4 x6 y : Int32} (hj : j < ns) (hR : R ≤ 40) (er : x2 - x2 / 100 * 100 = nI R) (hx : x4 = -1 ∨ ∃ w, w < 6 ∧ x4 = nI w) : ∀ (m k n : Nat) (z s a b : Int32) (vi vm : VI), R - k = m → k ≤ R → R1 ns j 13 vi vm n → sumIs x4 s a b → ∃ z' s' a' b' vi' vm', (∀ (k77 : Int32 → Nat → Int32 → Int32 → Int32 → Int32 → Int32 → VI → Option (Int32 × VI)) F, m < F → fX9_drawn_99 ns k77 F x4 (98 + 5 * j) x6 (nI R) z s y (nI k) vi = k77 x4 (98 + 5 * j) x6 (nI R) z' s' (y + 1) vi') ∧ (∀ (k62 : Int32 → Int32 → Int32 → Int32 → Int32 → Int32 → Int32 → VI → Option (Int32 × VI)) F, m < F → fX10_drawn_79 k62 F x2 x3 x4 z a b y (nI k) vm = k62 x2 x3 x4 z' a' b' (y + 1) vm') ∧ sumIs x4 s' a' b' ∧ I_cache ns vi' ∧ (∀ a i, ¬ WL 13 a i → vi' a i = vi a i) ∧ ∀ a i, ¬ WQ a i → vm' a i = vm a i := by
  intro m
  induction m with
  | zero =>
    intro k n z s a b vi vm q1 q2 q3 q4
    have : k = R := by omega
    subst this
    have c : nI k ≤ nI k := by rw [tle]; omega
    have hdp := q3.2.2.2.2.1
    have hc := q3.2.2.1
    have up := upper_eq hdp.1 hdp.2.1
    obtain ⟨d1, d2, d3, d4⟩ := hdp
    rcases hx with hx | ⟨w, hw, hx⟩
    · -- all LAYERS
      have qs : s = a := by
        rcases q4 with ⟨-, e⟩ | ⟨e, -⟩
        · exact e
        · exact absurd hx e
      by_cases c0 : n = 0
      · subst c0
        refine ⟨z, s + nI 0, a + nI 0, b, vi, vm, fun k77 F hF => ?_, fun k62 F hF => ?_, Or.inl ⟨hx, by rw [qs]⟩, hc, fun _ _ _ => rfl, fun _ _ _ => rfl⟩
        · obtain ⟨F, rfl⟩ : ∃ F', F = F' + 1 := ⟨F - 1, by omega⟩
          rw [fX9_drawn_99, if_pos c, if_pos hx, fX9_drawn_186, d2]
        · obtain ⟨F, rfl⟩ : ∃ F', F = F' + 1 := ⟨F - 1, by omega⟩
          rw [fX10_drawn_79, er, if_pos c, d3, if_pos (by decide), fX10_drawn_162]
      · obtain ⟨n, rfl⟩ : ∃ n', n = n' + 1 := ⟨n - 1, by omega⟩
        obtain ⟨g1, g2, g3, g4⟩ := d4 n (by omega)
        refine ⟨z, s + nI (n + 1), a + nI (n + 1), b, vi, vm, fun k77 F hF => ?_, fun k62 F hF => ?_, Or.inl ⟨hx, by rw [qs]⟩, hc, fun _ _ _ => rfl, fun _ _ _ => rfl⟩
        · obtain ⟨F, rfl⟩ : ∃ F', F = F' + 1 := ⟨F - 1, by omega⟩
          rw [fX9_drawn_99, if_pos c, if_pos hx, fX9_drawn_186, d2]
        · obtain ⟨F, rfl⟩ : ∃ F', F = F' + 1 := ⟨F - 1, by omega⟩
          rw [fX10_drawn_79, er, if_pos c, d3, if_neg (by rw [tle, tnI (by omega), l0]; omega), nsub1 (by omega), if_inb (by rw [tnI (by omega)]; omega), nI_clamp (by omega), if_neg (by rw [hx, teq, lm1]; have := g3.1; omega), fX10_drawn_162]
    · -- how often one is uppermost
      have hx1 : x4 ≠ -1 := by rw [hx, Ne, teq, tnI (by omega), lm1]; omega
      have qs : s = b := by
        rcases q4 with ⟨e, -⟩ | ⟨-, e⟩
        · exact absurd e hx1
        · exact e
      by_cases c0 : n = 0
      · subst c0
        refine ⟨z, s, a + nI 0, b, vi, vm, fun k77 F hF => ?_, fun k62 F hF => ?_, Or.inr ⟨hx1, qs⟩, hc, fun _ _ _ => rfl, fun _ _ _ => rfl⟩
        · obtain ⟨F, rfl⟩ : ∃ F', F = F' + 1 := ⟨F - 1, by omega⟩
          rw [fX9_drawn_99, if_pos c, if_neg hx1, up, Option.bind_some, if_pos rfl, if_neg (by rw [hx, teq, tnI (by omega), lm2]; omega), fX9_drawn_186]
        · obtain ⟨F, rfl⟩ : ∃ F', F = F' + 1 := ⟨F - 1, by omega⟩
          rw [fX10_drawn_79, er, if_pos c, d3, if_pos (by decide), fX10_drawn_162]
      · obtain ⟨n, rfl⟩ : ∃ n', n = n' + 1 := ⟨n - 1, by omega⟩
        obtain ⟨g1, g2, g3, g4⟩ := d4 n (by omega)
        rw [if_neg (by omega), show n + 1 - 1 = n from rfl, show 13 + 1 = 14 from rfl] at up
        rw [show 13 + 1 = 14 from rfl] at g1
        by_cases cw : vm 82 n = x4
        · refine ⟨z, s + 1, a + nI (n + 1), b + 1, vi, vm, fun k77 F hF => ?_, fun k62 F hF => ?_, Or.inr ⟨hx1, by rw [qs]⟩, hc, fun _ _ _ => rfl, fun _ _ _ => rfl⟩
          · obtain ⟨F, rfl⟩ : ∃ F', F = F' + 1 := ⟨F - 1, by omega⟩
            rw [fX9_drawn_99, if_pos c, if_neg hx1, up, Option.bind_some, g1, if_pos cw, fX9_drawn_186]
          · obtain ⟨F, rfl⟩ : ∃ F', F = F' + 1 := ⟨F - 1, by omega⟩
            rw [fX10_drawn_79, er, if_pos c, d3, if_neg (by rw [tle, tnI (by omega), l0]; omega), nsub1 (by omega), if_inb (by rw [tnI (by omega)]; omega), nI_clamp (by omega), if_pos cw, fX10_drawn_162]
        · refine ⟨z, s, a + nI (n + 1), b, vi, vm, fun k77 F hF => ?_, fun k62 F hF => ?_, Or.inr ⟨hx1, qs⟩, hc, fun _ _ _ => rfl, fun _ _ _ => rfl⟩
          · obtain ⟨F, rfl⟩ : ∃ F', F = F' + 1 := ⟨F - 1, by omega⟩
            rw [fX9_drawn_99, if_pos c, if_neg hx1, up, Option.bind_some, g1, if_neg cw, fX9_drawn_186]
          · obtain ⟨F, rfl⟩ : ∃ F', F = F' + 1 := ⟨F - 1, by omega⟩
            rw [fX10_drawn_79, er, if_pos c, d3, if_neg (by rw [tle, tnI (by omega), l0]; omega), nsub1 (by omega), if_inb (by rw [tnI (by omega)]; omega), nI_clamp (by omega), if_neg cw, fX10_drawn_162]
  | succ m ih =>
    intro k n z s a b vi vm q1 q2 q3 q4
    have c : ¬ nI R ≤ nI k := by rw [tle, tnI (by omega), tnI (by omega)]; omega
    obtain ⟨z1, hz1⟩ : ∃ z1, z1 = z * 1103515245 + 12345 := ⟨_, rfl⟩
    obtain ⟨w, hw, ew⟩ := draw_whom z1
    obtain ⟨u, hu, eu⟩ := draw_much z1
    obtain ⟨l, g, vi1, vm1, n1, -, e1, e2, e3, -, -, -, -, -, e4, e5⟩ := lay_both hj (Or.inl rfl) q3 hw hu
    obtain ⟨z', s', a', b', vi', vm', a1, a2, a3, a4, a5, a6⟩ := ih (k + 1) n1 z1 s a b vi1 vm1 (by omega) (by omega) e3 q4
    refine ⟨z', s', a', b', vi', vm', fun k77 F hF => ?_, fun k62 F hF => ?_, a3, a4, fun a i q => (a5 a i q).trans (e4 a i q), fun a i q => (a6 a i q).trans (e5 a i q)⟩
    · obtain ⟨F, rfl⟩ : ∃ F', F = F' + 1 := ⟨F - 1, by omega⟩
      rw [fX9_drawn_99, if_neg c, ← hz1, ew, eu, e1, Option.bind_some, nI_1]
      exact a1 k77 F (by omega)
    · obtain ⟨F, rfl⟩ : ∃ F', F = F' + 1 := ⟨F - 1, by omega⟩
      rw [fX10_drawn_79, er, if_neg c, ← hz1, ew, eu, e2, Option.bind_some, nI_1]
      exact a2 k62 F (by omega)
theorem year_loop {ns j R Y : Nat} {x2 x4 : Int32} (hj : j < ns) (hR : R ≤ 40) (hY : Y ≤ 30) (er : x2 - x2 / 100 * 100 = nI R) (ey : x2 / 100 = nI Y) (hx : x4 = -1 ∨ ∃ w, w < 6 ∧ x4 = nI w) : ∀ (m k : Nat) (z s a b : Int32) (vi vm : VI), Y - k = m → k ≤ Y → T0 ns vi vm → sumIs x4 s a b → ∃ r vi' vm', (∀ F, m < F → fX9_drawn_77 ns F x4 (98 + 5 * j) (nI Y) (nI R) z s (nI k) vi = some (r, vi')) ∧ (∀ F, m < F → fX10_drawn_62 F x2 (nI j) x4 z a b (nI k) vm = some (r, vm')) ∧ I_cache ns vi' ∧ (∀ a i, ¬ WL 13 a i → vi' a i = vi a i) ∧ ∀ a i, ¬ WQ a i → vm' a i = vm a i := by
  intro m
  induction m with
  | zero =>
    intro k z s a b vi vm q1 q2 q3 q4
    have : k = Y := by omega
    subst this
    have c : nI k ≤ nI k := by rw [tle]; omega
    rcases q4 with ⟨e1, e2⟩ | ⟨e1, e2⟩
    · refine ⟨s, vi, vm, fun F hF => ?_, fun F hF => ?_, q3.2.2.1, fun _ _ _ => rfl, fun _ _ _ => rfl⟩
      · obtain ⟨F, rfl⟩ : ∃ F', F = F' + 1 := ⟨F - 1, by omega⟩
        rw [fX9_drawn_77, if_pos c]
      · obtain ⟨F, rfl⟩ : ∃ F', F = F' + 1 := ⟨F - 1, by omega⟩
        rw [fX10_drawn_62, ey, if_pos c, if_neg (by rw [e1]; decide), e2]
    · refine ⟨s, vi, vm, fun F hF => ?_, fun F hF => ?_, q3.2.2.1, fun _ _ _ => rfl, fun _ _ _ => rfl⟩
      · obtain ⟨F, rfl⟩ : ∃ F', F = F' + 1 := ⟨F - 1, by omega⟩
        rw [fX9_drawn_77, if_pos c]
      · obtain ⟨F, rfl⟩ : ∃ F', F = F' + 1 := ⟨F - 1, by omega⟩
        have p : (0 : Int32) ≤ x4 := by
          rcases hx with hx | ⟨w, hw, hx⟩
          · exact absurd hx e1
          · rw [hx, tle, l0, tnI (by omega)]; omega
        rw [fX10_drawn_62, ey, if_pos c, if_pos p, e2]
  | succ m ih =>
    intro k z s a b vi vm q1 q2 q3 q4
    have c : ¬ nI Y ≤ nI k := by rw [tle, tnI (by omega), tnI (by omega)]; omega
    obtain ⟨k1, k2, k3, k4, k5⟩ := q3
    obtain ⟨n, vi1, vm1, a1, a2, a3, a4, a5⟩ := start_R1 k1 k2 k3 k4 hj k5
    obtain ⟨z', s', a', b', vi2, vm2, b1, b2, b3, b4, b5, b6⟩ := day_loop (x3 := nI j) (x6 := nI Y) (y := nI k) hj hR er hx R 0 n z s a b vi1 vm1 (by omega) (by omega) a3 q4
    obtain ⟨r, vi', vm', d1, d2, d3, d4, d5⟩ := ih (k + 1) z' s' a' b' vi2 vm2 (by omega) (by omega) (t0_after ⟨k1, k2, k3, k4, k5⟩ b4 (fun a i q => (b5 a i q).trans (a4 a i q)) (fun a i q => (b6 a i q).trans (a5 a i q))) b3
    refine ⟨r, vi', vm', fun F hF => ?_, fun F hF => ?_, d3, fun a i q => (d4 a i q).trans ((b5 a i q).trans (a4 a i q)), fun a i q => (d5 a i q).trans ((b6 a i q).trans (a5 a i q))⟩
    · obtain ⟨F, rfl⟩ : ∃ F', F = F' + 1 := ⟨F - 1, by omega⟩
      rw [fX9_drawn_77, if_neg c, a1, Option.bind_some, show (0 : Int32) = nI 0 from rfl, b1 _ FU (by rw [FU_eq]; omega), nI_1]
      exact d1 F (by omega)
    · obtain ⟨F, rfl⟩ : ∃ F', F = F' + 1 := ⟨F - 1, by omega⟩
      rw [fX10_drawn_62, ey, if_neg c, a2, Option.bind_some, show (0 : Int32) = nI 0 from rfl, b2 _ FU (by rw [FU_eq]; omega), nI_1]
      exact d2 F (by omega)
theorem div100 {x : Int32} (h : 1 ≤ (x / 100).toInt) : 0 ≤ x.toInt := by
  rw [Int32.toInt_div, l100] at h
  by_cases c : 0 ≤ x.toInt
  · exact c
  · exfalso
    have h1 := tlo x
    have e : Int.tdiv x.toInt 100 = -(((-x.toInt) / 100 : Int)) := by
      rw [show x.toInt = -(-x.toInt) by omega, Int.neg_tdiv, Int.tdiv_eq_ediv_of_nonneg (by omega), Int.neg_neg]
    rw [e, Int.bmod_eq_of_le (by omega) (by omega)] at h
    omega
theorem p_drawn {ns : Nat} {vi : VI} (hl : I_law vi) (hn : I_num ns vi) (hc : I_cache ns vi) (hd : I_dust ns vi) (x1 x2 x3 x4 : Int32) : Thought ns vi (fX9_drawn ns x1 x2 x3 x4 vi) (fX10_drawn x1 x2 x3 x4) := by
  have h5 := hn.1
  have n1 := hn.2.1
  have n2 := hn.2.2.1
  have l30 : (30 : Int32).toInt = 30 := rfl
  unfold fX9_drawn
  rw [sillAt_eq h5 n1]
  simp only [Option.bind_some, one9_eq, decide_eq_true_eq, tlt, tle, l1, l30, l40]
  by_cases c : (0 ≤ x3.toInt ∧ x3.toInt < ns) ∧ (1 ≤ (x2 / 100).toInt ∧ (x2 / 100).toInt ≤ 30) ∧ (1 ≤ (x2 - x2 / 100 * 100).toInt ∧ (x2 - x2 / 100 * 100).toInt ≤ 40) ∧ (-1 ≤ x4.toInt ∧ x4.toInt ≤ 5)
  · obtain ⟨c1, c2, c3, c4⟩ := c
    have cp := div100 c2.1
    obtain ⟨j, hj, rfl⟩ := ex_nI c1.1 c1.2 (by omega)
    obtain ⟨Y, hY, eY⟩ := ex_nI (x := x2 / 100) (N := 31) (by omega) (by omega) (by omega)
    obtain ⟨R, hR, eR⟩ := ex_nI (x := x2 - x2 / 100 * 100) (N := 41) (by omega) (by omega) (by omega)
    rw [if_pos c1, nI_clamp (by omega)]
    simp only [optS]
    rw [if_neg (by omega), if_neg (by omega), if_neg (by omega), if_pos (by omega)]
    have hx : x4 = -1 ∨ ∃ w, w < 6 ∧ x4 = nI w := by
      by_cases q : x4 = -1
      · exact Or.inl q
      · obtain ⟨w, hw, ew⟩ := ex_nI (x := x4) (N := 6) (by rw [teq, lm1] at q; omega) (by omega) (by omega)
        exact Or.inr ⟨w, hw, ew⟩
    have same : (if x4 = -1 then fX9_drawn_68 ns x1 x4 (98 + 5 * j) (x2 / 100) (x2 - x2 / 100 * 100) vi else if 0 ≤ x4.toInt ∧ x4.toInt ≤ 5 then fX9_drawn_68 ns x1 x4 (98 + 5 * j) (x2 / 100) (x2 - x2 / 100 * 100) vi else some (-1, vi)) = fX9_drawn_68 ns x1 x4 (98 + 5 * j) (x2 / 100) (x2 - x2 / 100 * 100) vi := by
      by_cases q : x4 = -1
      · rw [if_pos q]
      · rw [if_neg q, if_pos (by rw [teq, lm1] at q; omega)]
    rw [same, fX9_drawn_68, eR, eY]
    refine thought_of fun vm hv => ?_
    obtain ⟨r, vi', vm', a1, a2, a3, a4, a5⟩ := year_loop hj (by omega) (by omega) eR eY hx Y 0 x1 0 0 0 vi vm (by omega) (by omega) ⟨hl, hn, hc, hd, hv⟩ (by
      by_cases q : x4 = -1
      · exact Or.inl ⟨q, rfl⟩
      · exact Or.inr ⟨q, rfl⟩)
    refine ⟨r, vi', vm', a1 FU (by rw [FU_eq]; omega), ?_, a3, a4, a5⟩
    unfold fX10_drawn
    rw [if_neg (by rw [tlt, l0]; omega), isSill_eq h5 (agree_ns n2 hv)]
    simp only [Option.bind_some, in_eq, decide_eq_true_eq, l1, l30, l40, l5, lm1]
    rw [if_pos c2, if_pos c3, if_pos c1, if_pos c4]
    exact a2 FU (by rw [FU_eq]; omega)
  · refine thought_same (r := -1) hc ?_ fun vm hv => ?_
    · by_cases c1 : 0 ≤ x3.toInt ∧ x3.toInt < ns
      · rw [if_pos c1]
        simp only [optS]
        by_cases d1 : (x2 / 100).toInt < 1
        · rw [if_pos d1]
        · rw [if_neg d1]
          by_cases d2 : 30 < (x2 / 100).toInt
          · rw [if_pos d2]
          · rw [if_neg d2]
            by_cases d3 : (x2 - x2 / 100 * 100).toInt < 1
            · rw [if_pos d3]
            · rw [if_neg d3]
              by_cases d4 : (x2 - x2 / 100 * 100).toInt ≤ 40
              · rw [if_pos d4]
                by_cases d5 : x4 = -1
                · exact absurd ⟨c1, by omega, by omega, by rw [d5, lm1]; omega⟩ c
                · rw [if_neg d5, if_neg (fun d6 => c ⟨c1, by omega, by omega, by omega⟩)]
              · rw [if_neg d4]
      · rw [if_neg c1]; rfl
    · unfold fX10_drawn
      rw [isSill_eq h5 (agree_ns n2 hv)]
      simp only [Option.bind_some, in_eq, decide_eq_true_eq, l1, l30, l40, l5, lm1, tlt, l0]
      by_cases d0 : x2.toInt < 0
      · rw [if_pos d0]
      · rw [if_neg d0]
        by_cases d1 : 1 ≤ (x2 / 100).toInt ∧ (x2 / 100).toInt ≤ 30
        · rw [if_pos d1]
          by_cases d2 : 1 ≤ (x2 - x2 / 100 * 100).toInt ∧ (x2 - x2 / 100 * 100).toInt ≤ 40
          · rw [if_pos d2]
            by_cases c1 : 0 ≤ x3.toInt ∧ x3.toInt < ns
            · rw [if_pos c1, if_neg (fun c4 => c ⟨c1, d1, d2, c4⟩)]
            · rw [if_neg c1]
          · rw [if_neg d2]
        · rw [if_neg d1]
