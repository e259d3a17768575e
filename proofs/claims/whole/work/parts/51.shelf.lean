/-! SHELVES -/
theorem ex_nI {x : Int32} {N : Nat} (h : 0 ≤ x.toInt) (h2 : x.toInt < N) (hN : N ≤ 2147483648) : ∃ j : Nat, j < N ∧ x = nI j := by
  refine ⟨x.toInt.toNat, by omega, ?_⟩
  rw [teq, tnI (by omega)]
  omega
theorem FU_eq : FU = 100000 := rfl
theorem m2 {q : Nat} (h : q ≤ 4) : (-2 - nI q : Int32).toInt = -2 - (q : Int) := by
  rw [tsub (by rw [lm2, tnI (by omega)]; omega) (by rw [lm2, tnI (by omega)]; omega), lm2, tnI (by omega)]
def shelfIs (vi : VI) (s : Nat) : Prop := (vi (51 + 2 * s) 0 = 0 ∧ vi 94 s = -1) ∨ (vi (51 + 2 * s) 0 = 1 ∧ ∃ b n : Nat, vi (51 + 2 * s) 1 = nI b ∧ vi 94 s = nI b ∧ vi 63 45 = nI n ∧ b < n ∧ n ≤ 50) ∨ (vi (51 + 2 * s) 0 = 2 ∧ ∃ q : Nat, q ≤ 4 ∧ vi (51 + 2 * s) 2 = nI q ∧ vi 94 s = -2 - nI q)
def I_shelf (vi : VI) (vl : VL) : Prop := ∀ s, s < 6 → shelfIs vi s ∧ (∃ z : Nat, z ≤ 60 ∧ vi (51 + 2 * s) 3 = nI z ∧ vi 95 s = nI z) ∧ ∀ k, k < 60 → vl (51 + 2 * s + 1) k = vl 96 (60 * s + k)
/-- the places of shelves -/
def F_shelf (o i : Nat) : Prop := (∃ s, s < 6 ∧ o = 51 + 2 * s) ∨ o = 94 ∨ o = 95 ∨ (o = 63 ∧ i = 45)
theorem shelf_frame {vi vi' : VI} {vl : VL} (h : I_shelf vi vl) (hf : ∀ o i, F_shelf o i → vi' o i = vi o i) : I_shelf vi' vl := by
  intro s hs
  have e0 : ∀ i, vi' (51 + 2 * s) i = vi (51 + 2 * s) i := fun i => hf _ _ (Or.inl ⟨s, hs, rfl⟩)
  have e1 : ∀ i, vi' 94 i = vi 94 i := fun i => hf _ _ (Or.inr (Or.inl rfl))
  have e2 : ∀ i, vi' 95 i = vi 95 i := fun i => hf _ _ (Or.inr (Or.inr (Or.inl rfl)))
  have e3 : vi' 63 45 = vi 63 45 := hf _ _ (Or.inr (Or.inr (Or.inr ⟨rfl, rfl⟩)))
  have := h s hs
  simp only [shelfIs, e0, e1, e2, e3] at this ⊢
  exact this
theorem isRow_eq (o : Nat) (vi : VI) : fX6_isRow o vi = some (decide (vi o 0 = 2)) := by
  unfold fX6_isRow
  by_cases c : vi o 0 = 2 <;> simp [c]
/-- why there is no element; else where it is -/
theorem p_why {vi : VI} {vl : VL} (h : I_shelf vi vl) (x1 x2 : Int32) : ∃ r, fX9_refusalOfPlace x1 x2 vi = some r ∧ fX10_whyNoPlace x1 x2 vi = some r ∧
    (0 ≤ r.toInt → ∃ s i q : Nat, s < 6 ∧ i < 60 ∧ q ≤ 4 ∧ x1 = nI s ∧ x2 = nI i ∧ vi (51 + 2 * s) 2 = nI q ∧ vi 94 s = -2 - nI q) := by
  unfold fX9_refusalOfPlace fX10_whyNoPlace
  rw [shelf9_eq, shelf10_eq]
  simp only [Option.bind_some]
  by_cases c : 0 ≤ x1.toInt ∧ x1.toInt ≤ 5
  · simp only [c, decide_true, and_self, if_true]
    obtain ⟨s, hs, rfl⟩ := ex_nI (N := 6) c.1 (by omega) (by omega)
    have hb : 0 ≤ (nI s).toInt ∧ (nI s).toInt < (6 : Nat) := by omega
    simp only [if_inb hb, nI_clamp (show s < 2 ^ 31 by omega)]
    obtain ⟨h1, ⟨z, hz, h3, h95⟩, -⟩ := h s hs
    rcases h1 with ⟨h0, h94⟩ | ⟨h0, b, n, hb1, h94, hn, hbn, hn50⟩ | ⟨h0, q, hq, h2, h94⟩
    · rw [h0, h94]
      exact ⟨-11, by simp, by simp, fun q => absurd q (by simp only [lm11]; omega)⟩
    · simp only [isRow_eq, h0, h94]
      refine ⟨-12, by simp, ?_, fun q => absurd q (by simp only [lm12]; omega)⟩
      rw [if_neg (by rw [teq, tnI (by omega), lm1]; omega), if_neg (by rw [tlt, tnI (by omega), l0]; omega)]
    · simp only [isRow_eq, h0, h94, Option.bind_some, decide_true, if_true]
      have e2 := m2 hq
      rw [if_neg (by decide), if_neg (by rw [teq, e2, lm1]; omega), if_pos (by rw [tlt, e2, l0]; omega), in_eq]
      simp only [decide_true, if_true, Option.bind_some]
      unfold fX6_hasPlaces
      rw [h3, h95]
      have ez : (nI z).toInt = z := tnI (by omega)
      have ez1 : (nI z - 1).toInt = z - 1 := by rw [tsub (by rw [ez, l1]; omega) (by rw [ez, l1]; omega), ez, l1]
      simp only [tlt, l0, l1, ez, ez1]
      rw [if_neg (show ¬ (1 : Int) < 0 by omega)]
      by_cases c1 : x2.toInt < 0
      · rw [if_pos c1]
        refine ⟨-13, by simp, ?_, fun q => absurd q (by simp only [lm13]; omega)⟩
        rw [if_neg (by simp; omega)]
      · rw [if_neg c1]
        by_cases c2 : (z : Int) < 1
        · rw [if_pos c2]
          refine ⟨-13, by simp, ?_, fun q => absurd q (by simp only [lm13]; omega)⟩
          rw [if_neg (by simp; omega)]
        · rw [if_neg c2]
          by_cases c3 : (z : Int) - 1 < x2.toInt
          · rw [if_pos c3]
            refine ⟨-13, by simp, ?_, fun q => absurd q (by simp only [lm13]; omega)⟩
            rw [if_neg (by simp; omega)]
          · rw [if_neg c3]
            refine ⟨0, by simp, ?_, fun _ => ?_⟩
            · rw [if_pos (by simp; omega)]
            · obtain ⟨i, hi, rfl⟩ := ex_nI (x := x2) (N := 60) (by omega) (by omega) (by omega)
              exact ⟨s, i, q, hs, hi, hq, rfl, rfl, h2, h94⟩
  · simp only [c, decide_false]
    exact ⟨-1, rfl, rfl, fun q => absurd q (by simp only [lm1]; omega)⟩
theorem e60 {s i : Nat} (hs : s < 6) (hi : i < 60) : (60 * nI s + nI i : Int32) = nI (60 * s + i) := by
  rw [show (60 : Int32) = nI 60 from rfl, pk_mul, nI_add]
theorem p_element {vi : VI} {vl : VL} (h : I_shelf vi vl) (x1 x2 : Int32) : ∃ r, fX9_element x1 x2 vi vl = some r ∧ fX10_element x1 x2 vi vl = some r := by
  obtain ⟨r, h1, h2, h3⟩ := p_why h x1 x2
  unfold fX9_element fX10_element
  rw [h1, h2]
  simp only [Option.bind_some, tle, l0]
  by_cases c : 0 ≤ r.toInt
  · obtain ⟨s, i, q, hs, hi, hq, rfl, rfl, -, -⟩ := h3 c
    simp only [c, if_true, e60 hs hi]
    rw [if_inb (by rw [tnI (by omega)]; omega), if_inb (by rw [tnI (by omega)]; omega), if_inb (by rw [tnI (by omega)]; omega)]
    simp only [nI_clamp (show s < 2 ^ 31 by omega), nI_clamp (show i < 2 ^ 31 by omega), nI_clamp (show 60 * s + i < 2 ^ 31 by omega)]
    exact ⟨_, rfl, by rw [(h s hs).2.2 i hi]⟩
  · simp only [c, if_false]
    exact ⟨_, rfl, rfl⟩
theorem shelf_put {vi : VI} {vl : VL} (h : I_shelf vi vl) {s i : Nat} (hs : s < 6) (hi : i < 60) (w : Int64) : I_shelf vi (j_up (j_up vl (51 + 2 * s + 1) i w) 96 (60 * s + i) w) := by
  intro s' hs'
  obtain ⟨g1, g2, g3⟩ := h s' hs'
  refine ⟨g1, g2, fun k hk => ?_⟩
  by_cases c : s' = s ∧ k = i
  · obtain ⟨rfl, rfl⟩ := c
    rw [up_s, up_o (by omega), up_s]
  · rw [up_o (by omega), up_at, if_neg (by omega), up_at, if_neg (by omega), up_o (by omega)]
    exact g3 k hk
theorem p_put {vi : VI} {vl : VL} (h : I_shelf vi vl) (x1 x2 : Int32) (x3 : Int64) : ∃ r vl1, fX9_put x1 x2 x3 vi vl = some (r, vl1) ∧ ∃ vl2, fX10_put x1 x2 x3 vi vl1 = some (r, vl2) ∧ I_shelf vi vl2 := by
  obtain ⟨r, h1, h2, h3⟩ := p_why h x1 x2
  unfold fX9_put fX10_put
  rw [h1, h2]
  simp only [Option.bind_some, tle, l0]
  by_cases c : 0 ≤ r.toInt
  · obtain ⟨s, i, q, hs, hi, hq, rfl, rfl, hq2, h94⟩ := h3 c
    simp only [c, if_true, e60 hs hi]
    have b1 : 0 ≤ (nI s).toInt ∧ (nI s).toInt < (6 : Nat) := by rw [tnI (by omega)]; omega
    have b2 : 0 ≤ (nI i).toInt ∧ (nI i).toInt < (60 : Nat) := by rw [tnI (by omega)]; omega
    have b3 : 0 ≤ (nI (60 * s + i)).toInt ∧ (nI (60 * s + i)).toInt < (360 : Nat) := by rw [tnI (by omega)]; omega
    simp only [if_inb b1, if_inb b2, if_inb b3, nI_clamp (show s < 2 ^ 31 by omega), nI_clamp (show i < 2 ^ 31 by omega), nI_clamp (show 60 * s + i < 2 ^ 31 by omega)]
    unfold fX6_lowestBits
    have e : (-2 - vi 94 s : Int32) = nI q := by
      rw [h94, teq, tsub (by rw [m2 hq, lm2]; omega) (by rw [m2 hq, lm2]; omega), m2 hq, lm2, tnI (by omega)]; omega
    rw [hq2, e]
    have hq5 : q = 0 ∨ q = 1 ∨ q = 2 ∨ q = 3 ∨ q = 4 := by omega
    rcases hq5 with rfl | rfl | rfl | rfl | rfl
    · rw [if_pos (by rfl)]; exact ⟨_, _, rfl, _, by rw [if_pos (by rfl)], shelf_put h hs hi _⟩
    · rw [if_neg (by decide), if_pos (by rfl)]; exact ⟨_, _, rfl, _, by rw [if_neg (by decide), if_pos (by rfl)], shelf_put h hs hi _⟩
    · rw [if_neg (by decide), if_neg (by decide), if_pos (by rfl)]; exact ⟨_, _, rfl, _, by rw [if_neg (by decide), if_neg (by decide), if_pos (by rfl)], shelf_put h hs hi _⟩
    · rw [if_neg (by decide), if_neg (by decide), if_neg (by decide), if_pos (by rfl)]; exact ⟨_, _, rfl, _, by rw [if_neg (by decide), if_neg (by decide), if_neg (by decide), if_pos (by rfl)], shelf_put h hs hi _⟩
    · rw [if_neg (by decide), if_neg (by decide), if_neg (by decide), if_neg (by decide)]
      by_cases cz : lg_cmp x3 0 = 0
      · rw [if_pos cz]; exact ⟨_, _, rfl, _, by rw [if_neg (by decide), if_neg (by decide), if_neg (by decide), if_neg (by decide), if_pos cz], shelf_put h hs hi _⟩
      · rw [if_neg cz]; exact ⟨_, _, rfl, _, by rw [if_neg (by decide), if_neg (by decide), if_neg (by decide), if_neg (by decide), if_neg cz], shelf_put h hs hi _⟩
  · simp only [c, if_false]
    exact ⟨_, _, rfl, _, rfl, h⟩
theorem p_keep {vi : VI} {vl : VL} (h : I_shelf vi vl) (hb : I_body vi) (x1 x2 : Int32) : ∃ r vi1, fX9_keep x1 x2 vi = some (r, vi1) ∧ ∃ vi2, fX10_keep x1 x2 vi1 = some (r, vi2) ∧ I_shelf vi2 vl ∧ ∀ o i, (o < 51 ∨ 62 < o) → o ≠ 94 → vi2 o i = vi o i := by
  obtain ⟨n, hn, hb1, hb2, hb3⟩ := hb
  unfold fX9_keep
  rw [shelf9_eq]
  simp only [Option.bind_some]
  by_cases c : 0 ≤ x1.toInt ∧ x1.toInt ≤ 5
  · simp only [c, decide_true, and_self, if_true]
    obtain ⟨s, hs, rfl⟩ := ex_nI (N := 6) c.1 (by omega) (by omega)
    have hbs : 0 ≤ (nI s).toInt ∧ (nI s).toInt < (6 : Nat) := by omega
    have has : fX0_has x2 vi = some (decide (0 ≤ x2.toInt ∧ x2.toInt < n)) := by
      unfold fX0_has
      rw [hb1]
      simp only [tlt, tle, l0, l50, tnI (show n < 2147483648 by omega)]
      split
      · simp; omega
      · split
        · simp; omega
        · split
          · simp; omega
          · simp; omega
    have k1 : fX9_keep_25 (nI s) x2 vi = some (1, j_up (j_up vi (51 + 2 * s) 0 (if x2 = -1 then 0 else 1)) (51 + 2 * s) 1 x2) := by
      unfold fX9_keep_25
      rw [if_inb hbs]
      simp only [nI_clamp (show s < 2 ^ 31 by omega)]
      by_cases c1 : x2 = -1
      · rw [if_pos c1, if_pos c1]; rfl
      · rw [if_neg c1, if_neg c1]; rfl
    have fin : ∀ w : Int32, (x2 = -1 ∨ (0 ≤ x2.toInt ∧ x2.toInt < n)) → ∃ r vi1, fX9_keep_25 (nI s) x2 vi = some (r, vi1) ∧ ∃ vi2, fX10_keep (nI s) x2 vi1 = some (r, vi2) ∧ I_shelf vi2 vl ∧ ∀ o i, (o < 51 ∨ 62 < o) → o ≠ 94 → vi2 o i = vi o i := by
      intro w hx
      refine ⟨_, _, k1, ?_⟩
      unfold fX10_keep
      rw [shelf10_eq]
      simp only [Option.bind_some, c, decide_true, and_self, if_true]
      have e1 : fX10_keep_22 (nI s) x2 (j_up (j_up vi (51 + 2 * s) 0 (if x2 = -1 then 0 else 1)) (51 + 2 * s) 1 x2) = some (1, j_up (j_up (j_up vi (51 + 2 * s) 0 (if x2 = -1 then 0 else 1)) (51 + 2 * s) 1 x2) 94 s x2) := by
        unfold fX10_keep_22
        rw [if_inb hbs]
        simp only [nI_clamp (show s < 2 ^ 31 by omega)]
      have hbody : ∀ vi' : VI, vi' 63 45 = nI n → fX10_isBody x2 vi' = some (decide (0 ≤ x2.toInt ∧ x2.toInt ≤ n - 1)) := by
        intro vi' hv
        unfold fX10_isBody
        rw [hv, in_eq]
        have e : (nI n - 1 : Int32).toInt = n - 1 := by rw [tsub (by rw [tnI (by omega), l1]; omega) (by rw [tnI (by omega), l1]; omega), tnI (by omega), l1]
        simp only [Option.bind_some, l0, e]
      refine ⟨j_up (j_up (j_up vi (51 + 2 * s) 0 (if x2 = -1 then 0 else 1)) (51 + 2 * s) 1 x2) 94 s x2, ?_, ?_, ?_⟩
      · by_cases c1 : x2 = -1
        · rw [if_pos c1]; exact e1
        · rw [if_neg c1, hbody _ (by rw [up_o (by omega), up_o (by omega), hb2])]
          simp only [Option.bind_some]
          rw [if_pos (by rcases hx with hx | hx; · exact absurd hx c1
                         simp; omega)]
          exact e1
      · intro s' hs'
        obtain ⟨g1, g2, g3⟩ := h s' hs'
        refine ⟨?_, ?_, g3⟩
        · by_cases c2 : s' = s
          · subst c2
            by_cases c1 : x2 = -1
            · refine Or.inl ⟨?_, ?_⟩
              · rw [up_o (by omega), up_i (by omega), up_s, if_pos c1]
              · rw [up_s, c1]
            · have hx2 := hx.resolve_left c1
              obtain ⟨b, hbn, rfl⟩ := ex_nI (x := x2) (N := n) (by omega) (by omega) (by omega)
              refine Or.inr (Or.inl ⟨?_, b, n, ?_, ?_, ?_, hbn, hn⟩)
              · rw [up_o (by omega), up_i (by omega), up_s, if_neg c1]
              · rw [up_o (by omega), up_s]
              · rw [up_s]
              · rw [up_o (by omega), up_o (by omega), up_o (by omega), hb2]
          · have e0 : ∀ i, (j_up (j_up (j_up vi (51 + 2 * s) 0 (if x2 = -1 then 0 else 1)) (51 + 2 * s) 1 x2) 94 s x2) (51 + 2 * s') i = vi (51 + 2 * s') i := fun i => by rw [up_o (by omega), up_o (by omega), up_o (by omega)]
            have e94 : (j_up (j_up (j_up vi (51 + 2 * s) 0 (if x2 = -1 then 0 else 1)) (51 + 2 * s) 1 x2) 94 s x2) 94 s' = vi 94 s' := by rw [up_i c2, up_o (by omega), up_o (by omega)]
            have e63 : (j_up (j_up (j_up vi (51 + 2 * s) 0 (if x2 = -1 then 0 else 1)) (51 + 2 * s) 1 x2) 94 s x2) 63 45 = vi 63 45 := by rw [up_o (by omega), up_o (by omega), up_o (by omega)]
            simp only [shelfIs, e0, e94, e63] at g1 ⊢
            exact g1
        · obtain ⟨z, hz, z1, z2⟩ := g2
          refine ⟨z, hz, ?_, ?_⟩
          · rw [up_o (by omega), up_i (by omega), up_i (by omega)]; exact z1
          · rw [up_o (by omega), up_o (by omega), up_o (by omega)]; exact z2
      · intro o i g1 g2
        rw [up_o g2, up_o (by omega), up_o (by omega)]
    by_cases c1 : x2 = -1
    · rw [if_pos c1]; exact fin 0 (Or.inl c1)
    · rw [if_neg c1, has]
      simp only [Option.bind_some]
      by_cases c2 : 0 ≤ x2.toInt ∧ x2.toInt < n
      · rw [if_pos (by simp [c2])]; exact fin 0 (Or.inr c2)
      · rw [if_neg (by simp; omega)]
        refine ⟨_, _, rfl, vi, ?_, h, fun _ _ _ _ => rfl⟩
        unfold fX10_keep
        rw [shelf10_eq]
        simp only [Option.bind_some, c, decide_true, and_self, if_true]
        rw [if_neg c1]
        unfold fX10_isBody
        rw [hb2, in_eq]
        have e : (nI n - 1 : Int32).toInt = n - 1 := by rw [tsub (by rw [tnI (by omega), l1]; omega) (by rw [tnI (by omega), l1]; omega), tnI (by omega), l1]
        simp only [Option.bind_some, l0, e]
        rw [if_neg (by simp; omega)]
  · simp only [c, decide_false]
    refine ⟨_, _, rfl, vi, ?_, h, fun _ _ _ _ => rfl⟩
    unfold fX10_keep
    rw [shelf10_eq]
    simp only [Option.bind_some, c, decide_false]
    rfl
