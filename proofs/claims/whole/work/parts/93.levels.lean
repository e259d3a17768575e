/-! READING A TEXT: parts and their signs -/
def sg : Nat → List Nat
  | 0 => [124]
  | 1 => [38]
  | 2 => [60, 61, 62]
  | 3 => [43, 45]
  | _ => [42, 47, 37]
theorem sg_signs : ∀ i, i < 5 → ∀ g, g ∈ sg i → g ∈ signs ∧ g < 127 ∧ 37 ≤ g ∧ (g ≤ 47 ∨ 60 ≤ g) := by
  intro i hi g hg
  have : i = 0 ∨ i = 1 ∨ i = 2 ∨ i = 3 ∨ i = 4 := by omega
  rcases this with rfl | rfl | rfl | rfl | rfl
  · simp [sg] at hg; subst hg; decide
  · simp [sg] at hg; subst hg; decide
  · simp [sg] at hg; rcases hg with rfl | rfl | rfl <;> decide
  · simp [sg] at hg; rcases hg with rfl | rfl <;> decide
  · simp [sg] at hg; rcases hg with rfl | rfl | rfl <;> decide
theorem sg_part : ∀ i, i < 5 → ∀ g, g ∈ sg i → ∀ j, j < 5 → j ≠ i → g ∉ sg j := by decide
theorem part_all (v : VI) : ∀ i, i < 5 → ∀ g, g ∈ sg i → fX8_partOfSign_24 v (nI g) = some (nI i) := by
  intro i hi g hg
  have : i = 0 ∨ i = 1 ∨ i = 2 ∨ i = 3 ∨ i = 4 := by omega
  unfold fX8_partOfSign_24
  rcases this with rfl | rfl | rfl | rfl | rfl
  · simp [sg] at hg; subst hg; rfl
  · simp [sg] at hg; subst hg; rfl
  · simp [sg] at hg; rcases hg with rfl | rfl | rfl <;> rfl
  · simp [sg] at hg; rcases hg with rfl | rfl <;> rfl
  · simp [sg] at hg; rcases hg with rfl | rfl | rfl <;> rfl
theorem part_none (v : VI) (x : Int32) : (∃ i g, i < 5 ∧ g ∈ sg i ∧ x = nI g) ∨ fX8_partOfSign_24 v x = some (-1) := by
  unfold fX8_partOfSign_24
  by_cases c1 : x = 37
  · exact Or.inl ⟨4, 37, by omega, by simp [sg], c1⟩
  rw [if_neg c1]
  by_cases c2 : x = 38
  · exact Or.inl ⟨1, 38, by omega, by simp [sg], c2⟩
  rw [if_neg c2]
  by_cases c3 : x = 42
  · exact Or.inl ⟨4, 42, by omega, by simp [sg], c3⟩
  rw [if_neg c3]
  by_cases c4 : x = 43
  · exact Or.inl ⟨3, 43, by omega, by simp [sg], c4⟩
  rw [if_neg c4]
  by_cases c5 : x = 45
  · exact Or.inl ⟨3, 45, by omega, by simp [sg], c5⟩
  rw [if_neg c5]
  by_cases c6 : x = 47
  · exact Or.inl ⟨4, 47, by omega, by simp [sg], c6⟩
  rw [if_neg c6]
  by_cases c7 : x = 60
  · exact Or.inl ⟨2, 60, by omega, by simp [sg], c7⟩
  rw [if_neg c7]
  by_cases c8 : x = 61
  · exact Or.inl ⟨2, 61, by omega, by simp [sg], c8⟩
  rw [if_neg c8]
  by_cases c9 : x = 62
  · exact Or.inl ⟨2, 62, by omega, by simp [sg], c9⟩
  rw [if_neg c9]
  by_cases c10 : x = 124
  · exact Or.inl ⟨0, 124, by omega, by simp [sg], c10⟩
  rw [if_neg c10]
  exact Or.inr rfl
theorem part_of (v : VI) {x y : Int32} (lr : LR x y) {i : Nat} (hi : i < 5) : (∃ g, g ∈ sg i ∧ x = nI g ∧ y = nI g ∧ fX8_partOfSign_24 v x = some (nI i)) ∨ ((∀ g, g ∈ sg i → y ≠ nI g) ∧ ∃ r, fX8_partOfSign_24 v x = some r ∧ r ≠ nI i) := by
  rcases part_none v x with ⟨j, g, hj, hg, e⟩ | e
  · obtain ⟨-, s2, -, -⟩ := sg_signs j hj g hg
    have ey : y = nI g := (lr_eq lr (k := nI g) (by rw [tnI (by omega)]; omega) (by rw [tnI (by omega)]; omega)).mp e
    by_cases c : j = i
    · subst c
      exact Or.inl ⟨g, hg, e, ey, by rw [e]; exact part_all v j hj g hg⟩
    · refine Or.inr ⟨fun g' hg' e' => ?_, nI j, by rw [e]; exact part_all v j hj g hg, by rw [Ne, nI_inj (by omega) (by omega)]; exact c⟩
      obtain ⟨-, s3, -, -⟩ := sg_signs i hi g' hg'
      have : g = g' := (nI_inj (by omega) (by omega)).mp (ey.symm.trans e')
      rw [← this] at hg'
      exact sg_part j hj g hg i hi (fun q => c q.symm) hg'
  · refine Or.inr ⟨fun g hg e' => ?_, -1, e, by rw [Ne, teq, lm1, tnI (by omega)]; omega⟩
    obtain ⟨-, s3, -, -⟩ := sg_signs i hi g hg
    have ex : x = nI g := (lr_eq lr (k := nI g) (by rw [tnI (by omega)]; omega) (by rw [tnI (by omega)]; omega)).mpr e'
    rw [ex, part_all v i hi g hg] at e
    have := Option.some.inj e
    rw [teq, lm1, tnI (by omega)] at this
    omega
/-- no sign is seen with a fault, or at a doomed place -/
theorem badC_loop {vc : VI} {n f : Nat} (h : BadC vc n f) (hf : f ≤ n) (hn : n ≤ 120) {i : Nat} (hi : i < 5) (rec : Nat → Int32 → Int32 → VI → Option VI) (F : Nat) (x2 x3 x4 : Int32) : fX8_readPart_21 rec (F + 1) (nI i) x2 x3 x4 vc = some vc := by
  obtain ⟨h1, -, h3⟩ := h
  rw [fX8_readPart_21]
  by_cases c0 : x3 ≤ x4
  · rw [if_pos c0]
  · rw [if_neg c0]
    by_cases c : vc 3 3 = -1
    · rcases h3 with e | ⟨e1, e2, e3, e4, e5⟩
      · rw [c, teq, lm1, tnI (by omega)] at e; omega
      · have ep : fX8_partOfSign vc = fX8_partOfSign_24 vc (vc 4 f) := by
          unfold fX8_partOfSign
          rw [h1, e2, if_neg (by rw [tle, tnI (by omega), tnI (by omega)]; omega), if_inb (by rw [tnI (by omega)]; omega), nI_clamp (by omega)]
        have lr : LR (vc 4 f) (vc 4 f) := Or.inl ⟨rfl, by omega, by omega⟩
        rw [if_pos c, ep]
        rcases part_of vc lr hi with ⟨g, hg, ex, -, -⟩ | ⟨-, r, er, nr⟩
        · obtain ⟨-, s2, s3, s4⟩ := sg_signs i hi g hg
          rw [ex, tnI (by omega)] at e4 e5
          omega
        · rw [er, Option.bind_some, if_neg nr]
    · rw [if_neg c]
/-- so far -/
def St (n p0 o c s : Nat) (vc0 vm0 vc vm : VI) (p : Nat) (l : List Int32) : Prop := p0 < p ∧ l.length ≤ p - p0 ∧ (∀ h, hrun l h = some (h + 1)) ∧ PS vc vm n p o (c + l.length) (s + l.length) ∧ SegAt vc vm 10 c (130 + s) l ∧ FC c vc0 vc ∧ FM s vm0 vm
theorem sign_run {g : Nat} (hg : g ∈ signs) (h : Nat) : hst (nI (20000 + g)) (h + 1 + 1) = some (h + 1) := by
  have hg2 : 37 ≤ g ∧ g < 125 := by simp [signs] at hg; omega
  unfold hst
  rw [if_neg (by rw [tnI (by omega)]; omega), if_neg, if_neg (by omega)]
  · rfl
  · intro w
    rcases w with w | w
    · rw [teq, tnI (by omega), show (20033 : Int32).toInt = 20033 from rfl] at w; omega
    · rw [teq, tnI (by omega), show (20126 : Int32).toInt = 20126 from rfl] at w; omega
theorem iter {n p0 o c s i E g p : Nat} {vc0 vm0 vc vm : VI} {l : List Int32} {Gm : VI → Option VI} (hi : i < 5) (hG : PSpec o (fX8g E 3 (nI i) (nI o)) Gm) (hs : s ≤ p0) (hc : c ≤ p0) (hS : St n p0 o c s vc0 vm0 vc vm p l) (hg : g ∈ sg i) (hp : p < n) (hx : vc 4 p = nI g) : ∃ vc1 vc2 vm1 vm2, fX8g E 3 (nI i) (nI o) (j_up vc 3 2 (nI (p + 1))) = some vc1 ∧ fX5_add 9 (20000 + nI g) vc1 = some vc2 ∧ Gm (j_up vm 63 17 (nI (p + 1))) = some vm1 ∧ fX10_addStep (nI g) 0 vm1 = some vm2 ∧ ((∃ p' l', p + 2 ≤ p' ∧ St n p0 o c s vc0 vm0 vc2 vm2 p' l') ∨ Bad n p0 s vc0 vm0 vc2 vm2) := by
  obtain ⟨a1, a2, a3, a4, a5, a6, a7⟩ := hS
  have hn : n ≤ 120 := a4.1.1
  obtain ⟨s1, s2, s3, -⟩ := sg_signs i hi g hg
  have ec : (20000 + nI g : Int32) = nI (20000 + g) := by rw [show (20000 : Int32) = nI 20000 from rfl, nI_add]
  have ha : 0 ≤ (nI g).toInt ∧ (nI g).toInt ≤ 127 := by rw [tnI (by omega)]; omega
  have hsi : stepIs (nI (20000 + g)) (nI g) 0 := Or.inr (Or.inr (Or.inr (Or.inr ⟨g, s1, rfl, rfl⟩)))
  obtain ⟨b1, b2, b3⟩ := go_on a4 hp
  obtain ⟨vc1, vm1, r1, r2, r3⟩ := hG n (p + 1) (c + l.length) (s + l.length) _ _ b1 (by omega) (by omega)
  rw [ec]
  rcases r3 with ⟨p', l2, g1, g2, g3, g4, g5, g6, g7⟩ | ⟨f, p', s', g1, g2, g3, g4, g5, g6⟩
  · have hp'n := g4.2.1
    obtain ⟨vc2, vm2, d1, d2, d3, d4, d5, d6⟩ := add_both g4 (by omega) (by omega) ha hsi
    refine ⟨vc1, vc2, vm1, vm2, r1, d1, r2, d2, Or.inl ⟨p', l ++ (l2 ++ [nI (20000 + g)]), by omega, by omega, ?_, fun h => ?_, ?_, ?_, ?_, ?_⟩⟩
    · simp only [List.length_append, List.length_cons, List.length_nil]; omega
    · rw [hrun_app, a3 h, Option.bind_some, hrun_app, g3 (h + 1), Option.bind_some]
      show (hst (nI (20000 + g)) (h + 1 + 1)).bind (fun h' => some h') = some (h + 1)
      rw [sign_run s1]; rfl
    · have e1 : c + (l ++ (l2 ++ [nI (20000 + g)])).length = c + l.length + l2.length + 1 := by simp only [List.length_append, List.length_cons, List.length_nil]; omega
      have e2 : s + (l ++ (l2 ++ [nI (20000 + g)])).length = s + l.length + l2.length + 1 := by simp only [List.length_append, List.length_cons, List.length_nil]; omega
      rw [e1, e2]; exact d3
    · refine seg_app (seg_keep a5 (fc_tr b2 (fc_tr g6 d5 (by omega)) (Nat.le_refl _)) (fm_tr b3 (fm_tr g7 d6 (by omega)) (Nat.le_refl _)) (Nat.le_refl _) (Nat.le_refl _)) ?_
      rw [show 130 + s + l.length = 130 + (s + l.length) by omega]
      refine seg_app (seg_keep g5 d5 d6 (Nat.le_refl _) (Nat.le_refl _)) ?_
      rw [show 130 + (s + l.length) + l2.length = 130 + (s + l.length + l2.length) by omega]
      exact d4
    · exact fc_tr a6 (fc_tr b2 (fc_tr g6 d5 (by omega)) (Nat.le_refl _)) (by omega)
    · exact fm_tr a7 (fm_tr b3 (fm_tr g7 d6 (by omega)) (Nat.le_refl _)) (by omega)
  · have hp'n := g2.2.2.1
    obtain ⟨vc2, d1, d2, d3⟩ := badC_add g1 (nI (20000 + g))
    obtain ⟨vm2, d4, d5, d6⟩ := badM_add g2 (by omega) ha 0
    exact ⟨vc1, vc2, vm1, vm2, r1, d1, r2, d4, Or.inr ⟨f, p', s' + 1, d2, d5, by omega, by omega, fc0_tr a6.1 (fc0_tr b2.1 (fc0_tr g5 d3)), fm0_tr a7.1 (fm0_tr b3.1 (fm0_tr g6 d6))⟩⟩
/-- one turn of the class's loop -/
theorem turnC {n p o c s i E g : Nat} {vc vm : VI} {x3 : Int32} {k : Nat} (hP : PS vc vm n p o c s) (hi : i < 5) (hp : p < n) (hx : vc 4 p = nI g) (hg : g ∈ sg i) (hk : ¬ x3 ≤ nI k) (F : Nat) : fX8_readPart_21 (fX8g E) (F + 1) (nI i) (nI o) x3 (nI k) vc = (fX8g E 3 (nI i) (nI o) (j_up vc 3 2 (nI (p + 1)))).bind fun r4 => (fX5_add 9 (20000 + nI g) r4).bind fun r5 => fX8_readPart_21 (fX8g E) F (nI i) (nI o) x3 (nI (k + 1)) r5 := by
  have hn : n ≤ 120 := hP.1.1
  have h31 := hP.1.2.1
  have h32 := hP.2.2.1
  have h33 := hP.2.2.2.1
  have ep : fX8_partOfSign vc = some (nI i) := by
    unfold fX8_partOfSign
    rw [h31, h32, if_neg (by rw [tle, tnI (by omega), tnI (by omega)]; omega), if_inb (by rw [tnI (by omega)]; omega), nI_clamp (by omega), hx]
    exact part_all vc i hi g hg
  rw [fX8_readPart_21, if_neg hk, if_pos h33, ep, Option.bind_some, if_pos rfl, h32, if_inb (by rw [tnI (by omega)]; omega), nI_clamp (by omega), hx, nI_1, nI_1]
theorem level_loop {n p0 o c s i E : Nat} {vc0 vm0 : VI} {Gm : VI → Option VI} {ML : Nat → VI → Option VI} (hi : i < 5) (hG : PSpec o (fX8g E 3 (nI i) (nI o)) Gm) (hA : ∀ F vm y g, vm 63 18 = -1 → fX10_looksOn vm = some y → g ∈ sg i → y = nI g → ML (F + 1) vm = (Gm (j_up vm 63 17 (vm 63 17 + 1))).bind fun r4 => (fX10_addStep (nI g) 0 r4).bind fun r5 => ML F r5) (hB : ∀ F vm y, vm 63 18 = -1 → fX10_looksOn vm = some y → (∀ g, g ∈ sg i → y ≠ nI g) → ML (F + 1) vm = some vm) (hC : ∀ F vm, 0 ≤ vm 63 18 → ML (F + 1) vm = some vm) (hs : s ≤ p0) (hc : c ≤ p0) : ∀ (m k p : Nat) (l : List Int32) (vc vm : VI), n - p < m → 2 * k ≤ p → St n p0 o c s vc0 vm0 vc vm p l → ∀ F F', m ≤ F → m ≤ F' → Out n p0 o c s vc0 vm0 (fX8_readPart_21 (fX8g E) F (nI i) (nI o) 120 (nI k) vc) (ML F' vm) := by
  intro m
  induction m with
  | zero => intro k p l vc vm h1; omega
  | succ m ih =>
    intro k p l vc vm h1 h2 hS F F' hF hF'
    obtain ⟨F, rfl⟩ : ∃ G, F = G + 1 := ⟨F - 1, by omega⟩
    obtain ⟨F', rfl⟩ : ∃ G, F' = G + 1 := ⟨F' - 1, by omega⟩
    have hP := hS.2.2.2.1
    have hn : n ≤ 120 := hP.1.1
    have hpn := hP.2.1
    have h63 := hP.2.2.2.2.2.2.1
    have h17 := hP.2.2.2.2.2.1
    obtain ⟨x, y, lr, ly, lx, -, lp, -⟩ := letter hP
    rcases part_of vc lr hi with ⟨g, hg, ex, ey, -⟩ | ⟨ny, r, er, nr⟩
    · obtain ⟨-, s2, -, -⟩ := sg_signs i hi g hg
      have hp : p < n ∧ vc 4 p = nI g := by
        rcases lx with ⟨w, -⟩ | ⟨w1, w2, -⟩
        · rw [w, teq, lm1, tnI (by omega)] at ex; omega
        · exact ⟨w1, w2.trans ex⟩
      obtain ⟨vc1, vc2, vm1, vm2, r1, r2, r3, r4, r5⟩ := iter hi hG hs hc hS hg hp.1 hp.2
      rw [turnC hP hi hp.1 hp.2 hg (by rw [tle, l120, tnI (by omega)]; omega), r1, Option.bind_some, r2, Option.bind_some, hA F' vm y g h63 ly hg ey, h17, nI_1, r3, Option.bind_some, r4, Option.bind_some]
      rcases r5 with ⟨p', l', hp', hS'⟩ | hb
      · exact ih (k + 1) p' l' vc2 vm2 (by omega) (by omega) hS' F F' (by omega) (by omega)
      · obtain ⟨F, rfl⟩ : ∃ G, F = G + 1 := ⟨F - 1, by omega⟩
        obtain ⟨F', rfl⟩ : ∃ G, F' = G + 1 := ⟨F' - 1, by omega⟩
        obtain ⟨f, p', s', g1, g2, g3, g4, g5, g6⟩ := hb
        rw [badC_loop g1 g2.2.2.2.2.1 hn hi, hC F' vm2 (by rw [g2.2.2.2.1, tle, l0, tnI (by have := g2.2.2.2.2.1; omega)]; omega)]
        exact ⟨vc2, vm2, rfl, rfl, Or.inr ⟨f, p', s', g1, g2, g3, g4, g5, g6⟩⟩
    · have ec : fX8_readPart_21 (fX8g E) (F + 1) (nI i) (nI o) 120 (nI k) vc = some vc := by
        rw [fX8_readPart_21]
        by_cases q : (120 : Int32) ≤ nI k
        · rw [if_pos q]
        · rw [if_neg q, if_pos hP.2.2.2.1, lp, er, Option.bind_some, if_neg nr]
      rw [ec, hB F' vm y h63 ly ny]
      exact ⟨vc, vm, rfl, rfl, Or.inl ⟨p, l, hS⟩⟩
theorem level_both {o i E : Nat} {Gm Fm : VI → Option VI} {ML : Nat → VI → Option VI} (hi : i < 5) (h2 : i ≠ 2) (hG : PSpec o (fX8g E 3 (nI i) (nI o)) Gm) (hM : ∀ vm, Fm vm = (Gm vm).bind fun r1 => ML FU r1) (hA : ∀ F vm y g, vm 63 18 = -1 → fX10_looksOn vm = some y → g ∈ sg i → y = nI g → ML (F + 1) vm = (Gm (j_up vm 63 17 (vm 63 17 + 1))).bind fun r4 => (fX10_addStep (nI g) 0 r4).bind fun r5 => ML F r5) (hB : ∀ F vm y, vm 63 18 = -1 → fX10_looksOn vm = some y → (∀ g, g ∈ sg i → y ≠ nI g) → ML (F + 1) vm = some vm) (hC : ∀ F vm, 0 ≤ vm 63 18 → ML (F + 1) vm = some vm) : PSpec o (fX8g (E + 1) 0 (nI i) (nI o)) Fm := by
  intro n p c s vc vm hP hs hc
  have hn : n ≤ 120 := hP.1.1
  obtain ⟨vc1, vm1, r1, r2, r3⟩ := hG n p c s vc vm hP hs hc
  rw [g8_0, hM, r2, Option.bind_some]
  unfold fX8_readPart
  rw [r1, Option.bind_some, if_neg (by rw [teq, l2, tnI (by omega)]; omega)]
  unfold fX8_readPart_17
  rcases r3 with ⟨p', l, hS⟩ | ⟨f, p', s', g1, g2, g3, g4, g5, g6⟩
  · have hp'n := hS.2.2.2.1.2.1
    exact level_loop hi hG hA hB hC hs hc (n - p' + 1) 0 p' l vc1 vm1 (by omega) (by omega) hS FU FU (by rw [FU_eq]; omega) (by rw [FU_eq]; omega)
  · obtain ⟨F, hF⟩ := FU_s
    rw [hF, badC_loop g1 g2.2.2.2.2.1 hn hi, hC F vm1 (by rw [g2.2.2.2.1, tle, l0, tnI (by have := g2.2.2.2.2.1; omega)]; omega)]
    exact ⟨vc1, vm1, rfl, rfl, Or.inr ⟨f, p', s', g1, g2, g3, g4, g5, g6⟩⟩
