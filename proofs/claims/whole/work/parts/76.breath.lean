/-! BREATHS; CLEAR -/
theorem take_loop {o : Nat} (x : Int32) : ∀ (k l : Nat) (vi vm : VI), DP vi o vm k → l ≤ 99 → ∃ r vi' vm' n', n' ≤ k ∧ (∀ F, k + 2 < F → fX3_takeFromAbove_9 o F x (nI l) (nI k - 1) vi = some (r, vi')) ∧ (∀ F, k + 2 < F → fX10_goBreath_2 F x (nI l) vm = some (r, vm') ∨ (r = x - 0 ∧ fX10_goBreath_2 F x (nI l) vm = some (x, vm'))) ∧ DP vi' o vm' n' ∧ (∀ a i, ¬ (a = o ∧ i = 2) → a ≠ o + 2 → vi' a i = vi a i) ∧ ∀ a i, ¬ (a = 63 ∧ i = 30) → a ≠ 83 → vm' a i = vm a i := by
  intro k
  induction k with
  | zero =>
    intro l vi vm h hl
    obtain ⟨h1, h2, h3, h4⟩ := h
    refine ⟨x - nI l, vi, vm, 0, by omega, fun F hF => ?_, fun F hF => Or.inl ?_, ⟨h1, h2, h3, h4⟩, fun _ _ _ _ => rfl, fun _ _ _ _ => rfl⟩
    · obtain ⟨F, rfl⟩ : ∃ F', F = F' + 1 := ⟨F - 1, by omega⟩
      rw [fX3_takeFromAbove_9, if_pos (by decide)]
    · obtain ⟨F, rfl⟩ : ∃ F', F = F' + 1 := ⟨F - 1, by omega⟩
      rw [fX10_goBreath_2, h3, if_pos (by decide), fX10_goBreath_51, h3, if_pos t00]
  | succ k ih =>
    intro l vi vm h hl
    obtain ⟨h1, h2, h3, h4⟩ := h
    have ck : (nI k).toNatClampNeg = k := nI_clamp (by omega)
    have b2 : 0 ≤ (nI k).toInt ∧ (nI k).toInt < (12 : Nat) := by rw [tnI (by omega)]; omega
    have b3 : 0 ≤ (nI k).toInt ∧ (nI k).toInt < (13 : Nat) := by omega
    have cneg : ¬ nI k < 0 := by rw [tlt, tnI (by omega), l0]; omega
    have cle : ¬ nI (k + 1) ≤ 0 := by rw [tle, tnI (by omega), l0]; omega
    have cne : ¬ nI (k + 1) = 0 := by rw [teq, tnI (by omega), l0]; omega
    obtain ⟨g1, g2, g3, g4⟩ := h4 k (by omega)
    obtain ⟨t, ht, et⟩ := rng_nI (x := vm 83 k) (N := 99) ⟨by have := g4.1; omega, g4.2⟩ (by omega)
    have t1 : 1 ≤ t := by have := g4.1; rw [et, tnI (by omega)] at this; omega
    by_cases c0 : l = 0
    · subst c0
      refine ⟨x - 0, vi, j_up vm 83 k (nI t - 0), k + 1, by omega, fun F hF => ?_, fun F hF => Or.inr ⟨rfl, ?_⟩, ⟨h1, h2, by rw [up_o (by decide)]; exact h3, fun i hi => ?_⟩, fun _ _ _ _ => rfl, fun a i _ q => up_o q⟩
      · obtain ⟨F, rfl⟩ : ∃ F', F = F' + 1 := ⟨F - 1, by omega⟩
        rw [fX3_takeFromAbove_9, nsub1 (by omega), if_neg cneg, if_pos (by decide)]; rfl
      · obtain ⟨F, rfl⟩ : ∃ F', F = F' + 1 := ⟨F - 1, by omega⟩
        rw [fX10_goBreath_2, h3, if_neg cle, nsub1 (by omega), if_inb b3, ck, et, if_pos (by rw [tlt, tnI (by omega), tnI (by omega)]; omega), fX10_goBreath_51, h3, if_neg cne, nsub1 (by omega), if_inb b3, if_inb b3, ck, et]; rfl
      · have es : (nI t - 0 : Int32) = nI t := by rw [teq, tsub (by rw [tnI (by omega), l0]; omega) (by rw [tnI (by omega), l0]; omega), l0]; omega
        rw [up_o (by decide), es]
        by_cases ci : i = k
        · subst ci
          rw [up_s, ← et]; exact h4 i hi
        · rw [up_i ci]; exact h4 i hi
    · have cl : ¬ nI l ≤ 0 := by rw [tle, tnI (by omega), l0]; omega
      by_cases c : t ≤ l
      · -- the whole LAYER goes
        have off : (if nI t < nI l then nI t else nI l) = nI t := by
          by_cases q : nI t < nI l
          · rw [if_pos q]
          · rw [if_neg q]
            rw [tlt, tnI (by omega), tnI (by omega)] at q
            congr 1; omega
        have esub : (nI l - nI t : Int32) = nI (l - t) := by
          rw [teq, tsub (by rw [tnI (by omega), tnI (by omega)]; omega) (by rw [tnI (by omega), tnI (by omega)]; omega), tnI (by omega), tnI (by omega), tnI (by omega)]; omega
        have ezero : (nI t - nI t : Int32) = 0 := Int32.sub_self _
        obtain ⟨r, vi', vm', n', i1, i2, i3, i4, i5, i6⟩ := ih (l - t) (j_up (j_up vi (o + 2) k 0) o 2 (nI k)) (j_up vm 63 30 (nI k)) ⟨by omega, up_s, up_s, fun i hi => by
          rw [up_o (show o + 1 ≠ o by omega), up_o (show o + 1 ≠ o + 2 by omega), up_o (show o + 2 ≠ o by omega), up_i (show i ≠ k by omega), up_o (show (82 : Nat) ≠ 63 by decide), up_o (show (83 : Nat) ≠ 63 by decide)]
          exact h4 i (by omega)⟩ (by omega)
        refine ⟨r, vi', vm', n', by omega, fun F hF => ?_, fun F hF => ?_, i4, fun a i q1 q2 => by rw [i5 a i q1 q2, up_at, if_neg q1, up_o q2], fun a i q1 q2 => by rw [i6 a i q1 q2, up_at, if_neg q1]⟩
        · obtain ⟨F, rfl⟩ : ∃ F', F = F' + 1 := ⟨F - 1, by omega⟩
          rw [fX3_takeFromAbove_9, nsub1 (by omega), if_neg cneg, if_neg cl]
          simp only [if_inb b2, ck, g2, et, off, ezero, up_s, if_true, esub, fX3_takeFromAbove_59, addm1]
          exact i2 F (by omega)
        · obtain ⟨F, rfl⟩ : ∃ F', F = F' + 1 := ⟨F - 1, by omega⟩
          rw [fX10_goBreath_2, h3, if_neg cle, nsub1 (by omega), if_inb b3, ck, et, if_neg (by rw [tlt, tnI (by omega), tnI (by omega)]; omega), if_inb b3, esub]
          exact i3 F (by omega)
      · -- a part of it goes
        have off : (if nI t < nI l then nI t else nI l) = nI l := if_neg (by rw [tlt, tnI (by omega), tnI (by omega)]; omega)
        have esub : (nI t - nI l : Int32) = nI (t - l) := by
          rw [teq, tsub (by rw [tnI (by omega), tnI (by omega)]; omega) (by rw [tnI (by omega), tnI (by omega)]; omega), tnI (by omega), tnI (by omega), tnI (by omega)]; omega
        have ezero : (nI l - nI l : Int32) = 0 := Int32.sub_self _
        have nz : ¬ nI (t - l) = 0 := by rw [teq, tnI (by omega), l0]; omega
        refine ⟨x - 0, j_up vi (o + 2) k (nI (t - l)), j_up vm 83 k (nI (t - l)), k + 1, by omega, fun F hF => ?_, fun F hF => Or.inr ⟨rfl, ?_⟩, ⟨h1, by rw [up_o (by omega)]; exact h2, by rw [up_o (by decide)]; exact h3, fun i hi => ?_⟩, fun a i _ q => up_o q, fun a i _ q => up_o q⟩
        · obtain ⟨F, rfl⟩ : ∃ F', F = F' + 1 := ⟨F - 1, by omega⟩
          obtain ⟨F, rfl⟩ : ∃ F', F = F' + 1 := ⟨F - 1, by omega⟩
          rw [fX3_takeFromAbove_9, nsub1 (by omega), if_neg cneg, if_neg cl]
          simp only [if_inb b2, ck, g2, et, off, ezero, up_s, esub, if_neg nz, fX3_takeFromAbove_59, addm1]
          rw [fX3_takeFromAbove_9]
          by_cases q : (nI k - 1 : Int32) < 0
          · rw [if_pos q]
          · rw [if_neg q, if_pos (by decide)]
        · obtain ⟨F, rfl⟩ : ∃ F', F = F' + 1 := ⟨F - 1, by omega⟩
          rw [fX10_goBreath_2, h3, if_neg cle, nsub1 (by omega), if_inb b3, ck, et, if_pos (by rw [tlt, tnI (by omega), tnI (by omega)]; omega), fX10_goBreath_51, h3, if_neg cne, nsub1 (by omega), if_inb b3, if_inb b3, ck, et, esub]
        · rw [up_o (show o + 1 ≠ o + 2 by omega), up_o (show (82 : Nat) ≠ 83 by decide)]
          by_cases ci : i = k
          · subst ci
            rw [up_s, up_s]
            exact ⟨g1, rfl, g3, by rw [tnI (by omega)]; omega, by rw [tnI (by omega)]; omega⟩
          · rw [up_i ci, up_i ci]; exact h4 i hi
theorem take_both {o n l : Nat} {vi vm : VI} (h : DP vi o vm n) (hl : l ≤ 99) : ∃ r vi' vm' n', n' ≤ n ∧ fX3_takeFromAbove o (nI l) vi = some (r, vi') ∧ fX10_goBreath (nI l) vm = some (r, vm') ∧ DP vi' o vm' n' ∧ (∀ a i, ¬ (a = o ∧ i = 2) → a ≠ o + 2 → vi' a i = vi a i) ∧ ∀ a i, ¬ (a = 63 ∧ i = 30) → a ≠ 83 → vm' a i = vm a i := by
  obtain ⟨r, vi', vm', n', a1, a2, a3, a4, a5, a6⟩ := take_loop (nI l) n l vi vm h hl
  have hn := h.1
  refine ⟨r, vi', vm', n', a1, ?_, ?_, a4, a5, a6⟩
  · unfold fX3_takeFromAbove
    rw [h.2.1]
    exact a2 FU (by rw [FU_eq]; omega)
  · unfold fX10_goBreath
    rcases a3 FU (by rw [FU_eq]; omega) with e | ⟨e1, e2⟩
    · exact e
    · have : (nI l - 0 : Int32) = nI l := by rw [teq, tsub (by rw [tnI (by omega), l0]; omega) (by rw [tnI (by omega), l0]; omega), l0]; omega
      rw [e2, e1, this]
/-- one SILL's dust goes into thought, a pile is made: no law is asked -/
theorem start_plain {ns j : Nat} {vi vm : VI} (h5 : ns ≤ 5) (hd : I_dust ns vi) (hj : j < ns) (hv : Agree vi vm) : ∃ n vi1 vm1, fX3_become 13 (98 + 5 * j + 1) vi = some vi1 ∧ fX10_layNow (nI j) vm = some vm1 ∧ DP vi1 13 vm1 n ∧ DP vi (99 + 5 * j) vm1 n ∧ vm1 63 29 = nI j ∧ (∀ a i, ¬ (a = 13 ∧ i = 2) → a ≠ 14 → a ≠ 15 → vi1 a i = vi a i) ∧ ∀ a i, ¬ WQ a i → vm1 a i = vm a i := by
  obtain ⟨n, vm1, a1, a2, a3, a4⟩ := layNow_DP hd h5 hj (vm := vm) (fun o i q => ag hv o i (by omega))
  obtain ⟨vi1, b1, b2, b3⟩ := become_DP (x := 99 + 5 * j) (by omega) a2
  exact ⟨n, vi1, vm1, by rw [show 98 + 5 * j + 1 = 99 + 5 * j by omega]; exact b1, a1, b2, a2, a3, b3, fun a i q => a4 a i (by unfold WQ at q; omega) (by unfold WQ at q; omega) (by unfold WQ at q; omega)⟩
theorem cache_plain {ns : Nat} {vi vi' : VI} (hc : I_cache ns vi) (hf : ∀ a i, a = 64 ∨ a = 65 ∨ (75 ≤ a ∧ a ≤ 79) ∨ (a = 63 ∧ i ≤ 28) ∨ (102 ≤ a ∧ a % 5 = 2) → vi' a i = vi a i) : I_cache ns vi' :=
  cache_frame hc (fun t _ => ⟨(hf _ _ (by omega)).symm, (hf _ _ (by omega)).symm, (hf _ _ (by omega)).symm, (hf _ _ (by omega)).symm, fun a i p q => (hf a i (by omega)).symm⟩) (fun t i _ _ => Or.inl (hf _ _ (by omega)))
theorem p_breath {ns : Nat} {vi : VI} (hn : I_num ns vi) (hc : I_cache ns vi) (hd : I_dust ns vi) (x1 x2 x3 : Int32) : Thought ns vi (fX9_breath ns x1 x2 x3 vi) (fX10_breath x1 x2 x3) := by
  have h5 := hn.1
  have n1 := hn.2.1
  have n2 := hn.2.2.1
  unfold fX9_breath
  rw [sillAt_eq h5 n1]
  simp only [Option.bind_some, within_eq, decide_eq_true_eq, l99, l1]
  by_cases c : (0 ≤ x1.toInt ∧ x1.toInt < ns) ∧ (0 ≤ x2.toInt ∧ x2.toInt ≤ 99) ∧ (0 ≤ x3.toInt ∧ x3.toInt ≤ 1)
  · obtain ⟨c1, c2, c3⟩ := c
    obtain ⟨j, hj, rfl⟩ := ex_nI c1.1 c1.2 (by omega)
    obtain ⟨l, hl, rfl⟩ := ex_nI (x := x2) (N := 100) c2.1 (by omega) (by omega)
    rw [if_pos c1, nI_clamp (by omega)]
    simp only [optS, if_pos c2, if_pos c3]
    refine thought_of fun vm hv => ?_
    obtain ⟨n, vi1, vm1, a1, a2, a3, -, -, a4, a5⟩ := start_plain h5 hd hj hv
    obtain ⟨r, vi', vm', n', -, b1, b2, b3, b4, b5⟩ := take_both a3 (show l ≤ 99 by omega)
    have left : Left ns vi vi' vm vm' := by
      have fr : ∀ a i, ¬ (a = 13 ∧ i = 2) → a ≠ 14 → a ≠ 15 → vi' a i = vi a i := fun a i q1 q2 q3 => (b4 a i q1 q3).trans (a4 a i q1 q2 q3)
      exact ⟨cache_plain hc fun a i q => fr a i (by omega) (by omega) (by omega), fun a i q => fr a i (by unfold WL at q; omega) (by unfold WL at q; omega) (by unfold WL at q; omega), fun a i q => (b5 a i (by unfold WQ at q; omega) (by unfold WQ at q; omega)).trans (a5 a i q)⟩
    unfold fX10_breath
    rw [isSill_eq h5 (agree_ns n2 hv), a1, Option.bind_some, b1]
    simp only [Option.bind_some, in_eq, decide_eq_true_eq, l99, l1, l0, if_pos c1, if_pos c2, if_pos c3]
    rw [a2, Option.bind_some, b2]
    simp only [Option.bind_some]
    rw [upper_eq b3.1 b3.2.1, b3.2.1, b3.2.2.1]
    have hn12 := b3.1
    by_cases d : x3 = 0
    · have d1 : ¬ x3 = 1 := by rw [d]; decide
      rw [if_pos d, if_neg d1]
      by_cases d0 : n' = 0
      · subst d0
        rw [if_pos (show 0 = 0 from rfl), if_pos t00]
        exact ⟨_, vi', vm', rfl, rfl, left⟩
      · obtain ⟨k, rfl⟩ : ∃ k, n' = k + 1 := ⟨n' - 1, by omega⟩
        have dn : ¬ nI (k + 1) = 0 := by rw [teq, tnI (by omega), l0]; omega
        rw [if_neg d0, if_neg dn, nsub1 (by omega), if_inb (by rw [tnI (by omega)]; omega), nI_clamp (by omega), show k + 1 - 1 = k from rfl, (b3.2.2.2 k (by omega)).1]
        exact ⟨_, vi', vm', rfl, rfl, left⟩
    · rw [if_neg d, if_pos (by rw [teq, l0] at d; rw [teq, l1]; omega)]
      exact ⟨_, vi', vm', rfl, rfl, left⟩
  · refine thought_same (r := -1) hc ?_ fun vm hv => ?_
    · by_cases c1 : 0 ≤ x1.toInt ∧ x1.toInt < ns
      · rw [if_pos c1]
        simp only [optS]
        by_cases c2 : 0 ≤ x2.toInt ∧ x2.toInt ≤ 99
        · rw [if_pos c2, if_neg (fun c3 => c ⟨c1, c2, c3⟩)]
        · rw [if_neg c2]
      · rw [if_neg c1]; rfl
    · unfold fX10_breath
      rw [isSill_eq h5 (agree_ns n2 hv)]
      simp only [Option.bind_some, in_eq, decide_eq_true_eq, l99, l1, l0]
      by_cases c1 : 0 ≤ x1.toInt ∧ x1.toInt < ns
      · rw [if_pos c1]
        by_cases c2 : 0 ≤ x2.toInt ∧ x2.toInt ≤ 99
        · rw [if_pos c2, if_neg (fun c3 => c ⟨c1, c2, c3⟩)]
        · rw [if_neg c2]
      · rw [if_neg c1]
/-- sums from above -/
def sufS (f : Nat → Nat) (n : Nat) : Nat → Nat
  | 0 => 0
  | m + 1 => f (n - (m + 1)) + sufS f n m
theorem thickFrom_suf {vc vm : VI} {o n : Nat} (h : DP vc o vm n) {f : Nat → Nat} (hf : ∀ k, k < n → vm 83 k = nI (f k) ∧ f k ≤ 99) : ∀ (m s : Nat), m ≤ n → s ≤ 99 * (n - m) → sufS f n m ≤ 99 * m ∧ ∀ F, m < F → fX3_thickFrom_10 o vc F (nI s) (nI (n - m)) = some (nI (s + sufS f n m)) := by
  obtain ⟨h1, h2, h3, h4⟩ := h
  intro m
  induction m with
  | zero =>
    intro s q1 q2
    refine ⟨by simp [sufS], fun F hF => ?_⟩
    obtain ⟨F, rfl⟩ : ∃ F', F = F' + 1 := ⟨F - 1, by omega⟩
    rw [fX3_thickFrom_10, h2, if_pos (by rw [tle]; simp)]; rfl
  | succ m ih =>
    intro s q1 q2
    obtain ⟨g1, g2, g3, g4⟩ := h4 (n - (m + 1)) (by omega)
    obtain ⟨e1, e2⟩ := hf (n - (m + 1)) (by omega)
    obtain ⟨a1, a2⟩ := ih (s + f (n - (m + 1))) (by omega) (by omega)
    refine ⟨by simp only [sufS]; omega, fun F hF => ?_⟩
    obtain ⟨F, rfl⟩ : ∃ F', F = F' + 1 := ⟨F - 1, by omega⟩
    rw [fX3_thickFrom_10, h2, if_neg (by rw [tle, tnI (by omega), tnI (by omega)]; omega), if_inb (by rw [tnI (by omega)]; omega), nI_clamp (by omega), g2, e1, nI_add, nI_1, show n - (m + 1) + 1 = n - m by omega, a2 F (by omega)]
    simp only [sufS]
    congr 2; omega
theorem nextOf_spec {vc vm : VI} {o n : Nat} (h : DP vc o vm n) (p : Int32) : ∀ (m k : Nat), n - k = m → k ≤ n → (∃ q, k ≤ q ∧ q < n ∧ vm 82 q = p ∧ (∀ i, k ≤ i → i < q → vm 82 i ≠ p) ∧ ∀ F, m < F → fX3_nextOf_6 o vc F p (nI k) = some (nI q)) ∨ ((∀ i, k ≤ i → i < n → vm 82 i ≠ p) ∧ ∀ F, m < F → fX3_nextOf_6 o vc F p (nI k) = some (-2)) := by
  obtain ⟨h1, h2, h3, h4⟩ := h
  intro m
  induction m with
  | zero =>
    intro k q1 q2
    refine Or.inr ⟨fun i i1 i2 => absurd i1 (by omega), fun F hF => ?_⟩
    obtain ⟨F, rfl⟩ : ∃ F', F = F' + 1 := ⟨F - 1, by omega⟩
    rw [fX3_nextOf_6, h2, if_pos (by rw [tle, tnI (by omega), tnI (by omega)]; omega)]
  | succ m ih =>
    intro k q1 q2
    have c : ¬ nI n ≤ nI k := by rw [tle, tnI (by omega), tnI (by omega)]; omega
    have b2 : 0 ≤ (nI k).toInt ∧ (nI k).toInt < (12 : Nat) := by rw [tnI (by omega)]; omega
    have ck : (nI k).toNatClampNeg = k := nI_clamp (by omega)
    have g1 := (h4 k (by omega)).1
    by_cases cp : vm 82 k = p
    · refine Or.inl ⟨k, by omega, by omega, cp, fun i i1 i2 => absurd i1 (by omega), fun F hF => ?_⟩
      obtain ⟨F, rfl⟩ : ∃ F', F = F' + 1 := ⟨F - 1, by omega⟩
      rw [fX3_nextOf_6, h2, if_neg c, if_inb b2, ck, g1, if_pos cp]
    · have one : ∀ F, m + 1 < F → ∃ F', m < F' ∧ fX3_nextOf_6 o vc F p (nI k) = fX3_nextOf_6 o vc F' p (nI (k + 1)) := by
        intro F hF
        obtain ⟨F, rfl⟩ : ∃ F', F = F' + 1 := ⟨F - 1, by omega⟩
        exact ⟨F, by omega, by rw [fX3_nextOf_6, h2, if_neg c, if_inb b2, ck, g1, if_neg cp, nI_1]⟩
      rcases ih (k + 1) (by omega) (by omega) with ⟨q, a1, a2, a3, a4, a5⟩ | ⟨a1, a2⟩
      · refine Or.inl ⟨q, by omega, a2, a3, fun i i1 i2 => ?_, fun F hF => ?_⟩
        · by_cases ci : i = k
          · subst ci; exact cp
          · exact a4 i (by omega) i2
        · obtain ⟨F', f1, f2⟩ := one F hF
          rw [f2]; exact a5 F' f1
      · refine Or.inr ⟨fun i i1 i2 => ?_, fun F hF => ?_⟩
        · by_cases ci : i = k
          · subst ci; exact cp
          · exact a1 i (by omega) i2
        · obtain ⟨F', f1, f2⟩ := one F hF
          rw [f2]; exact a2 F' f1
theorem clear_model {vc vm : VI} {o n : Nat} (h : DP vc o vm n) {f : Nat → Nat} (hf : ∀ k, k < n → vm 83 k = nI (f k) ∧ f k ≤ 99) (p : Int32) : ∀ (k : Nat) (x : Int32), k ≤ n → ∃ r, (∀ F, k < F → fX10_clear_35 F p (nI (sufS f n (n - k))) x (nI k - 1) vm = some (r, vm)) ∧ ((∀ i, i < k → vm 82 i ≠ p) → r = x) ∧ ∀ q, q < k → vm 82 q = p → (∀ i, i < q → vm 82 i ≠ p) → r = nI (sufS f n (n - q)) := by
  intro k
  induction k with
  | zero =>
    intro x hk
    refine ⟨x, fun F hF => ?_, fun _ => rfl, fun q q1 _ _ => absurd q1 (by omega)⟩
    obtain ⟨F, rfl⟩ : ∃ F', F = F' + 1 := ⟨F - 1, by omega⟩
    rw [fX10_clear_35, if_pos (by decide)]
  | succ k ih =>
    intro x hk
    have hn := h.1
    have cneg : ¬ nI k < 0 := by rw [tlt, tnI (by omega), l0]; omega
    have b3 : 0 ≤ (nI k).toInt ∧ (nI k).toInt < (13 : Nat) := by rw [tnI (by omega)]; omega
    have ck : (nI k).toNatClampNeg = k := nI_clamp (by omega)
    obtain ⟨e1, e2⟩ := hf k (by omega)
    have es : (nI (sufS f n (n - (k + 1))) + nI (f k) : Int32) = nI (sufS f n (n - k)) := by
      rw [nI_add]
      congr 1
      rw [show n - k = (n - (k + 1)) + 1 by omega]
      simp only [sufS]
      rw [show n - (n - (k + 1) + 1) = k by omega]
      omega
    by_cases cp : vm 82 k = p
    · obtain ⟨r, a1, a2, a3⟩ := ih (nI (sufS f n (n - k))) (by omega)
      refine ⟨r, fun F hF => ?_, fun w => absurd cp (w k (by omega)), fun q q1 q2 q3 => ?_⟩
      · obtain ⟨F, rfl⟩ : ∃ F', F = F' + 1 := ⟨F - 1, by omega⟩
        rw [fX10_clear_35, nsub1 (by omega), if_neg cneg, if_inb b3, if_inb b3, ck, e1, es, if_pos cp, fX10_clear_64, addm1]
        exact a1 F (by omega)
      · by_cases cq : q = k
        · subst cq; exact a2 q3
        · exact a3 q (by omega) q2 q3
    · obtain ⟨r, a1, a2, a3⟩ := ih x (by omega)
      refine ⟨r, fun F hF => ?_, fun w => a2 fun i hi => w i (by omega), fun q q1 q2 q3 => ?_⟩
      · obtain ⟨F, rfl⟩ : ∃ F', F = F' + 1 := ⟨F - 1, by omega⟩
        rw [fX10_clear_35, nsub1 (by omega), if_neg cneg, if_inb b3, if_inb b3, ck, e1, es, if_neg cp, fX10_clear_64, addm1]
        exact a1 F (by omega)
      · by_cases cq : q = k
        · subst cq; exact absurd q2 cp
        · exact a3 q (by omega) q2 q3
theorem clear_both {vc vm : VI} {o n : Nat} (h : DP vc o vm n) (p : Int32) : ∃ r, ((fX3_nextOf o p 0 vc).bind fun r4 => (fX3_thickFrom o r4 vc).bind fun r5 => some r5) = some r ∧ fX10_clear_35 FU p 0 0 (nI n - 1) vm = some (r, vm) := by
  have hn := h.1
  obtain ⟨f, hf⟩ : ∃ f : Nat → Nat, ∀ k, k < n → vm 83 k = nI (f k) ∧ f k ≤ 99 := by
    refine ⟨fun k => (vm 83 k).toInt.toNat, fun k hk => ?_⟩
    have g := (h.2.2.2 k hk).2.2.2
    obtain ⟨t, ht, et⟩ := rng_nI (x := vm 83 k) (N := 99) ⟨by have := g.1; omega, g.2⟩ (by omega)
    simp only [et, tnI (show t < 2147483648 by omega)]
    exact ⟨by simp, by omega⟩
  obtain ⟨r, a1, a2, a3⟩ := clear_model h hf p n 0 (Nat.le_refl _)
  have a1' := a1 FU (by rw [FU_eq]; omega)
  rw [Nat.sub_self] at a1'
  simp only [sufS] at a1'
  refine ⟨r, ?_, a1'⟩
  have e0 : (if (0 : Int32) < 0 then (0 : Int32) else 0) = nI 0 := rfl
  unfold fX3_nextOf
  rw [e0]
  rcases nextOf_spec h p n 0 (by omega) (by omega) with ⟨q, b1, b2, b3, b4, b5⟩ | ⟨b1, b2⟩
  · rw [b5 FU (by rw [FU_eq]; omega), Option.bind_some]
    unfold fX3_thickFrom
    obtain ⟨c1, c2⟩ := thickFrom_suf h hf (n - q) 0 (by omega) (by omega)
    rw [if_pos (by rw [tle, l0, tnI (by omega)]; omega)]
    have := c2 FU (by rw [FU_eq]; omega)
    rw [show n - (n - q) = q by omega] at this
    rw [show (0 : Int32) = nI 0 from rfl, this, Option.bind_some, a3 q b2 b3 (fun i hi => b4 i (by omega) hi)]
    simp
  · rw [b2 FU (by rw [FU_eq]; omega), Option.bind_some]
    unfold fX3_thickFrom
    rw [if_neg (by decide), Option.bind_some, a2 fun i hi => b1 i (by omega) hi]
theorem p_clear {ns : Nat} {vi : VI} (hn : I_num ns vi) (hd : I_dust ns vi) (x1 x2 : Int32) : ∃ r, fX9_clear ns x1 x2 vi = some r ∧ ∃ vi2, fX10_clear x1 x2 vi = some (r, vi2) ∧ ∀ o i, ¬ WQ o i → vi2 o i = vi o i := by
  have h5 := hn.1
  have n1 := hn.2.1
  have n2 := hn.2.2.1
  unfold fX9_clear fX10_clear
  rw [sillAt_eq h5 n1, isSill_eq h5 n2]
  simp only [Option.bind_some, one9_eq, one10_eq, decide_eq_true_eq]
  by_cases c1 : 0 ≤ x1.toInt ∧ x1.toInt < ns
  · rw [if_pos c1, if_pos c1]
    obtain ⟨j, hj, rfl⟩ := ex_nI c1.1 c1.2 (by omega)
    simp only [optS, nI_clamp (show j < 2 ^ 31 by omega)]
    by_cases c2 : 0 ≤ x2.toInt ∧ x2.toInt ≤ 5
    · rw [if_pos c2, if_pos c2]
      obtain ⟨n, vi1, vm1, -, a2, -, a3, -, -, a5⟩ := start_plain h5 hd hj (vm := vi) (fun _ _ _ _ _ => rfl)
      obtain ⟨r, b1, b2⟩ := clear_both a3 x2
      rw [a2, Option.bind_some, a3.2.2.1, b2, show 98 + 5 * j + 1 = 99 + 5 * j by omega, b1]
      exact ⟨r, rfl, vm1, rfl, a5⟩
    · rw [if_neg c2, if_neg c2]
      exact ⟨_, rfl, vi, rfl, fun _ _ _ => rfl⟩
  · rw [if_neg c1, if_neg c1]
    exact ⟨_, rfl, vi, rfl, fun _ _ _ => rfl⟩
