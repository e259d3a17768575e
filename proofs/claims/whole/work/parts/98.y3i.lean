/-! Days: the model's loops -/
theorem mw_put {n : Nat} {wh th : Nat → Nat} {A : Nat → Nat → Nat} {ex : Nat → Bool} {x3 : Int32} {vm : VI} {vl : VL} {l m t : Nat} {v : Int64} (h : MD n wh th A x3 vm) (hm : m ≤ 9) (ht : t ≤ 99) (hw : MW wh th A ex n ((l * 10 + m) * 100 + t) vl) (hv : ok' n th m t → v = nL (wy wh th A ex n (min n 9) l m t)) : MW wh th A ex n ((l * 10 + m) * 100 + (t + 1)) (j_up vl 84 ((l * 10 + m) * 100 + t) v) := by
  intro l' m' t' hl' o q
  have t9 := ok_99 h o
  have m9 := o.1
  by_cases e : (l' * 10 + m') * 100 + t' = (l * 10 + m) * 100 + t
  · have e1 : t' = t := by omega
    have e2 : m' = m := by omega
    have e3 : l' = l := by omega
    subst e1; subst e2; subst e3
    rw [up_s, hv o]
  · rw [up_i e]; exact hw l' m' t' hl' o (by omega)
theorem loop32 {n : Nat} {wh th : Nat → Nat} {A : Nat → Nat → Nat} {ex : Nat → Bool} {x2 x3 : Int32} {vm : VI} {l m : Nat} (h : MD n wh th A x3 vm) (hx : ∀ c, c < 60 → (ex c = true ↔ nI (c / 10) = x3)) (hl : l ≤ 9) (hm : m ≤ 9) : ∀ (d t : Nat) (vl : VL), 100 - t = d → t ≤ 100 → MW wh th A ex n ((l * 10 + m) * 100 + t) vl → ∃ vl', (∀ F k13 k22, d < F → fX10_findWays_32 k13 k22 F x2 (nI l) (nI m) (nI t) vm vl = k22 x2 (nI l) (nI (m + 1)) vm vl') ∧ MW wh th A ex n ((l * 10 + (m + 1)) * 100 + 0) vl' ∧ ∀ a i, a ≠ 84 → vl' a i = vl a i := by
  intro d
  induction d with
  | zero =>
    intro t vl hd ht hw
    obtain rfl : t = 100 := by omega
    refine ⟨vl, fun F k13 k22 hF => ?_, ?_, fun _ _ _ => rfl⟩
    · obtain ⟨F, rfl⟩ : ∃ F', F = F' + 1 := ⟨F - 1, by omega⟩
      refine (if_pos (by decide)).trans ?_
      rw [nI_1]
    · rw [show (l * 10 + (m + 1)) * 100 + 0 = (l * 10 + m) * 100 + 100 by omega]; exact hw
  | succ d ih =>
    intro t vl hd ht hw
    have key : ∃ v, (ok' n th m t → v = nL (wy wh th A ex n (min n 9) l m t)) ∧ ∀ (k : Int64 → Option (VI × VL)), (if nI l = 0 then (fX10_isThere (nI m) (nI t) vm).bind k else (fX10_sumWays (nI l) (nI m) (nI t) vm vl).bind k) = k v := by
      by_cases z : l = 0
      · subst z
        obtain ⟨v, e1, e2⟩ := there_eq (ex := ex) (m := m) (t := t) h hm (by omega)
        exact ⟨v, e2, fun k => (if_pos (show nI 0 = (0 : Int32) from rfl)).trans (by rw [e1, Option.bind_some])⟩
      · obtain ⟨q, rfl⟩ : ∃ q, l = q + 1 := ⟨l - 1, by omega⟩
        obtain ⟨v, e1, e2⟩ := sum_eq h hx hl hm (show t ≤ 99 by omega) hw (by omega)
        exact ⟨v, e2, fun k => (if_neg (by rw [← t00, nI_inj (by omega) (by omega)]; exact z)).trans (by rw [e1, Option.bind_some])⟩
    obtain ⟨v, hv, kv⟩ := key
    obtain ⟨vl', g1, g2, g3⟩ := ih (t + 1) _ (by omega) (by omega) (mw_put h hm (by omega) hw hv)
    refine ⟨vl', fun F k13 k22 hF => ?_, g2, fun a i q => (g3 a i q).trans (up_o q)⟩
    obtain ⟨F, rfl⟩ : ∃ F', F = F' + 1 := ⟨F - 1, by omega⟩
    refine (if_neg (by rw [tle, tnI (by omega), l100]; omega)).trans ?_
    rw [way_eq, Option.bind_some]
    refine (kv _).trans ?_
    unfold fX10_findWays_78
    rw [if_inb (by rw [tnI (by omega)]; omega), nI_clamp (by omega), nI_1]
    exact g1 F k13 k22 (by omega)
theorem loop22 {n : Nat} {wh th : Nat → Nat} {A : Nat → Nat → Nat} {ex : Nat → Bool} {x2 x3 : Int32} {vm : VI} {l : Nat} (h : MD n wh th A x3 vm) (hx : ∀ c, c < 60 → (ex c = true ↔ nI (c / 10) = x3)) (hl : l ≤ 9) : ∀ (d m : Nat) (vl : VL), 10 - m = d → m ≤ 10 → MW wh th A ex n ((l * 10 + m) * 100 + 0) vl → ∃ vl', (∀ F k13, d < F → fX10_findWays_22 k13 F x2 (nI l) (nI m) vm vl = k13 x2 (nI (l + 1)) vm vl') ∧ MW wh th A ex n (((l + 1) * 10 + 0) * 100 + 0) vl' ∧ ∀ a i, a ≠ 84 → vl' a i = vl a i := by
  intro d
  induction d with
  | zero =>
    intro m vl hd hm hw
    obtain rfl : m = 10 := by omega
    refine ⟨vl, fun F k13 hF => ?_, ?_, fun _ _ _ => rfl⟩
    · obtain ⟨F, rfl⟩ : ∃ F', F = F' + 1 := ⟨F - 1, by omega⟩
      refine (if_pos (by decide)).trans ?_
      rw [nI_1]
    · rw [show ((l + 1) * 10 + 0) * 100 + 0 = (l * 10 + 10) * 100 + 0 by omega]; exact hw
  | succ d ih =>
    intro m vl hd hm hw
    obtain ⟨vl1, f1, f2, f3⟩ := loop32 (x2 := x2) (m := m) h hx hl (by omega) 100 0 vl (by omega) (by omega) hw
    obtain ⟨vl', g1, g2, g3⟩ := ih (m + 1) vl1 (by omega) (by omega) f2
    refine ⟨vl', fun F k13 hF => ?_, g2, fun a i q => (g3 a i q).trans (f3 a i q)⟩
    obtain ⟨F, rfl⟩ : ∃ F', F = F' + 1 := ⟨F - 1, by omega⟩
    refine (if_neg (by rw [tle, tnI (by omega), l10]; omega)).trans ?_
    exact (f1 FU k13 (fX10_findWays_22 k13 F) (by rw [FU_eq]; omega)).trans (g1 F k13 (by omega))
theorem loop13 {n D : Nat} {wh th : Nat → Nat} {A : Nat → Nat → Nat} {ex : Nat → Bool} {x3 : Int32} {vm : VI} (h : MD n wh th A x3 vm) (hx : ∀ c, c < 60 → (ex c = true ↔ nI (c / 10) = x3)) (hD : D ≤ 9) : ∀ (d l : Nat) (vl : VL), D + 1 - l = d → l ≤ D + 1 → MW wh th A ex n ((l * 10 + 0) * 100 + 0) vl → ∃ vl', (∀ F, d < F → fX10_findWays_13 F (nI D) (nI l) vm vl = some (vm, vl')) ∧ MW wh th A ex n (((D + 1) * 10 + 0) * 100 + 0) vl' ∧ ∀ a i, a ≠ 84 → vl' a i = vl a i := by
  intro d
  induction d with
  | zero =>
    intro l vl hd hl hw
    obtain rfl : l = D + 1 := by omega
    refine ⟨vl, fun F hF => ?_, hw, fun _ _ _ => rfl⟩
    obtain ⟨F, rfl⟩ : ∃ F', F = F' + 1 := ⟨F - 1, by omega⟩
    exact if_pos (by rw [tlt, tnI (by omega), tnI (by omega)]; omega)
  | succ d ih =>
    intro l vl hd hl hw
    obtain ⟨vl1, f1, f2, f3⟩ := loop22 (x2 := nI D) (l := l) h hx (by omega) 10 0 vl (by omega) (by omega) hw
    obtain ⟨vl', g1, g2, g3⟩ := ih (l + 1) vl1 (by omega) (by omega) f2
    refine ⟨vl', fun F hF => ?_, g2, fun a i q => (g3 a i q).trans (f3 a i q)⟩
    obtain ⟨F, rfl⟩ : ∃ F', F = F' + 1 := ⟨F - 1, by omega⟩
    refine (if_neg (by rw [tlt, tnI (by omega), tnI (by omega)]; omega)).trans ?_
    exact (f1 FU (fX10_findWays_13 F) (by rw [FU_eq]; omega)).trans (g1 F (by omega))
def AMa (A : Nat → Nat → Nat) (a : Nat) (vm : VI) : Prop := ∀ k c, k < 10 → c < 60 → 60 * k + c < a → vm 85 (60 * k + c) = nI (A k c)
theorem amt15 {ns j n : Nat} {wh th : Nat → Nat} {A : Nat → Nat → Nat} {vi : VI} {vl : VL} (h : DA ns j n wh th A vi vl) {k : Nat} (hk : k < 10) : ∀ (d c : Nat) (vm : VI), 60 - c = d → c ≤ 60 → LawSame j vi vm → AMa A (60 * k + c) vm → ∃ vm', (∀ F k7, d < F → fX10_layAmounts_15 k7 F (nI j) (nI k) (nI c) vm = k7 (nI j) (nI (k + 1)) vm') ∧ LawSame j vi vm' ∧ AMa A (60 * (k + 1) + 0) vm' ∧ ∀ a i, a ≠ 80 → a ≠ 81 → a ≠ 85 → vm' a i = vm a i := by
  intro d
  induction d with
  | zero =>
    intro c vm hd hc hs hA
    obtain rfl : c = 60 := by omega
    refine ⟨vm, fun F k7 hF => ?_, hs, ?_, fun _ _ _ _ _ => rfl⟩
    · obtain ⟨F, rfl⟩ : ∃ F', F = F' + 1 := ⟨F - 1, by omega⟩
      refine (if_pos (by decide)).trans ?_
      rw [nI_1]
    · rw [show 60 * (k + 1) + 0 = 60 * k + 60 by omega]; exact hA
  | succ d ih =>
    intro c vm hd hc hs hA
    have hc' : c < 60 := by omega
    obtain ⟨vm1, e1, e2⟩ := (h.2.2.2.2.2 k (by omega) c hc').2 vm hs
    have fr : ∀ a i, a ≠ 80 → a ≠ 81 → a ≠ 85 → j_up vm1 85 (60 * k + c) (nI (A k c)) a i = vm a i := fun a i q1 q2 q3 => (up_o q3).trans (e2 a i q1 q2)
    have s1 : LawSame j vi (j_up vm1 85 (60 * k + c) (nI (A k c))) := same_trans hs (same_scr fun a i q => fr a i (by unfold Scr at q; omega) (by unfold Scr at q; omega) (by unfold Scr at q; omega))
    have a1 : AMa A (60 * k + (c + 1)) (j_up vm1 85 (60 * k + c) (nI (A k c))) := by
      intro k' c' q1 q2 q3
      by_cases e : 60 * k' + c' = 60 * k + c
      · have x1 : k' = k := by omega
        have x2 : c' = c := by omega
        rw [e, up_s, x1, x2]
      · rw [up_i e, e2 85 _ (by omega) (by omega)]; exact hA k' c' q1 q2 (by omega)
    obtain ⟨vm', g1, g2, g3, g4⟩ := ih (c + 1) _ (by omega) (by omega) s1 a1
    refine ⟨vm', fun F k7 hF => ?_, g2, g3, fun a i q1 q2 q3 => (g4 a i q1 q2 q3).trans (fr a i q1 q2 q3)⟩
    obtain ⟨F, rfl⟩ : ∃ F', F = F' + 1 := ⟨F - 1, by omega⟩
    refine (if_neg (by rw [tle, tnI (by omega), l60]; omega)).trans ?_
    have e0 : (60 * nI k + nI c : Int32) = nI (60 * k + c) := by rw [show (60 : Int32) = nI 60 from rfl, nI_mul, nI_add]
    rw [c_rem hc', c_div hc', e1, Option.bind_some, e0, if_inb (by rw [tnI (by omega)]; omega), nI_clamp (by omega), nI_1]
    exact g1 F k7 (by omega)
theorem amt7 {ns j n : Nat} {wh th : Nat → Nat} {A : Nat → Nat → Nat} {vi : VI} {vl : VL} (h : DA ns j n wh th A vi vl) : ∀ (d k : Nat) (vm : VI), 10 - k = d → k ≤ 10 → LawSame j vi vm → AMa A (60 * k + 0) vm → ∃ vm', (∀ F, d < F → fX10_layAmounts_7 F (nI j) (nI k) vm = some vm') ∧ AMa A 600 vm' ∧ ∀ a i, a ≠ 80 → a ≠ 81 → a ≠ 85 → vm' a i = vm a i := by
  intro d
  induction d with
  | zero =>
    intro k vm hd hk hs hA
    obtain rfl : k = 10 := by omega
    refine ⟨vm, fun F hF => ?_, hA, fun _ _ _ _ _ => rfl⟩
    obtain ⟨F, rfl⟩ : ∃ F', F = F' + 1 := ⟨F - 1, by omega⟩
    exact if_pos (by decide)
  | succ d ih =>
    intro k vm hd hk hs hA
    obtain ⟨vm1, f1, f2, f3, f4⟩ := amt15 h (k := k) (by omega) 60 0 vm (by omega) (by omega) hs hA
    obtain ⟨vm', g1, g2, g3⟩ := ih (k + 1) vm1 (by omega) (by omega) f2 f3
    refine ⟨vm', fun F hF => ?_, g2, fun a i q1 q2 q3 => (g3 a i q1 q2 q3).trans (f4 a i q1 q2 q3)⟩
    obtain ⟨F, rfl⟩ : ∃ F', F = F' + 1 := ⟨F - 1, by omega⟩
    refine (if_neg (by rw [tle, tnI (by omega), l10]; omega)).trans ?_
    exact (f1 FU (fX10_layAmounts_7 F) (by rw [FU_eq]; omega)).trans (g1 F (by omega))
def AW (a i : Nat) : Prop := (a = 63 ∧ 29 ≤ i ∧ i ≤ 38) ∨ (80 ≤ a ∧ a ≤ 86)
theorem find_ways {ns j n D : Nat} {wh th : Nat → Nat} {A : Nat → Nat → Nat} {ex : Nat → Bool} {x3 : Int32} {vi : VI} {vl : VL} (h : DA ns j n wh th A vi vl) (hx : ∀ c, c < 60 → (ex c = true ↔ nI (c / 10) = x3)) (hD : D ≤ 9) : ∃ vm vl', fX10_findWays (nI j) (nI D) x3 vi vl = some (vm, vl') ∧ MD n wh th A x3 vm ∧ MW wh th A ex n (((D + 1) * 10 + 0) * 100 + 0) vl' ∧ (∀ a i, ¬ AW a i → vm a i = vi a i) ∧ ∀ a i, a ≠ 84 → vl' a i = vl a i := by
  have h5 := h.2.1.1.1
  have n12 := h.2.2.1
  obtain ⟨n', vm1, a1, a2, a3, a4⟩ := layNow_DP h.2.1.2.2.2.1 h5 h.1 (vm := vi) fun _ _ _ => rfl
  obtain ⟨p1, p2, p3, p4⟩ := a2
  have en : n' = n := by
    have := h.2.2.2.1
    rw [p2] at this
    exact (nI_inj (by omega) (by omega)).1 this
  subst en
  have s1 : LawSame j vi vm1 := same_scr fun a i q => a4 a i (by unfold Scr at q; omega) (by unfold Scr at q; omega) (by unfold Scr at q; omega)
  obtain ⟨vm2, b1, b2, b3⟩ := amt7 h 10 0 vm1 (by omega) (by omega) s1 fun k c _ _ q => absurd q (by omega)
  have md : MD n' wh th A x3 (j_up vm2 63 36 x3) := by
    refine ⟨n12, ?_, fun k hk => ?_, fun k c hk hc => ⟨?_, (h.2.2.2.2.2 k (by omega) c hc).1⟩, up_s⟩
    · rw [up_i (by omega), b3 _ _ (by omega) (by omega) (by omega)]; exact p3
    · obtain ⟨w1, w2, w3, w4, w5⟩ := h.2.2.2.2.1 k hk
      obtain ⟨u1, u2, _⟩ := p4 k hk
      rw [show 99 + 5 * j + 1 = 100 + 5 * j by omega, w1] at u1
      rw [show 99 + 5 * j + 2 = 101 + 5 * j by omega, w2] at u2
      refine ⟨?_, ?_, w3, w5⟩
      · rw [up_o (by omega), b3 _ _ (by omega) (by omega) (by omega)]; exact u1.symm
      · rw [up_o (by omega), b3 _ _ (by omega) (by omega) (by omega)]; exact u2.symm
    · rw [up_o (by omega)]; exact b2 k c hk hc (by omega)
  obtain ⟨vl', c1, c2, c3⟩ := loop13 md hx hD (D + 1) 0 vl (by omega) (by omega) fun l m t _ _ q => absurd q (by omega)
  refine ⟨j_up vm2 63 36 x3, vl', ?_, md, c2, fun a i q => ?_, c3⟩
  · unfold fX10_findWays fX10_layAmounts
    rw [a1, Option.bind_some]
    refine (congrArg (fun o => o.bind fun r1 => fX10_findWays_13 FU (nI D) 0 (j_up r1 63 36 x3) vl) (b1 FU (by rw [FU_eq]; omega))).trans ?_
    exact c1 FU (by rw [FU_eq]; omega)
  · rw [up_at, if_neg (by unfold AW at q; omega), b3 _ _ (by unfold AW at q; omega) (by unfold AW at q; omega) (by unfold AW at q; omega), a4 _ _ (by unfold AW at q; omega) (by unfold AW at q; omega) (by unfold AW at q; omega)]
theorem all_ways {ns j n D : Nat} {wh th : Nat → Nat} {A : Nat → Nat → Nat} {ex : Nat → Bool} {x3 : Int32} {vi : VI} {vl : VL} (h : DA ns j n wh th A vi vl) (hx : ∀ c, c < 60 → (ex c = true ↔ nI (c / 10) = x3)) (hD : D ≤ 9) : ∃ vm vl', fX10_allWays (nI j) (nI D) x3 vi vl = some (nL (wy wh th A ex n n D 0 0), vm, vl') ∧ MD n wh th A x3 vm ∧ MW wh th A ex n (((D + 1) * 10 + 0) * 100 + 0) vl' ∧ (∀ a i, ¬ AW a i → vm a i = vi a i) ∧ (∀ a i, a ≠ 84 → vl' a i = vl a i) ∧ DA ns j n wh th A vm vl' := by
  obtain ⟨vm, vl', e1, e2, e3, e4, e5⟩ := find_ways h hx hD
  refine ⟨vm, vl', ?_, e2, e3, e4, e5, da_plain h (fun a i q1 q2 q3 => e4 a i (by unfold AW; omega)) fun a i _ q => e5 a i q⟩
  unfold fX10_allWays
  rw [e1, Option.bind_some]
  refine (congrArg (fun o => o.bind fun r2 => if inb r2 10000 = true then some ((vl' 84 r2.toNatClampNeg), vm, vl') else none) (way_eq D 0 0)).trans ?_
  rw [Option.bind_some, if_inb (by rw [tnI (by omega)]; omega), nI_clamp (by omega), e3 D 0 0 hD ⟨by omega, fun _ => rfl, fun q => absurd q (by omega)⟩ (by omega), wy_cap D 0 0 (by omega)]
