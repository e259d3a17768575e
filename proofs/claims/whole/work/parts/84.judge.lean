/-! ROWS of bytes hold bytes; JUDGED -/
def small (e : Int64) : Prop := e = e.toInt32.toInt64
def I_byte (vi : VI) (vl : VL) : Prop := ∀ s, s < 6 → vi (51 + 2 * s) 0 = 2 → vi (51 + 2 * s) 2 = 0 → ∀ k, k < 60 → small (vl (52 + 2 * s) k)
theorem small_of (x : Int32) : small x.toInt64 := by
  unfold small
  rw [Int32.toInt32_toInt64]
theorem byte_frame {vi vi' : VI} {vl vl' : VL} (h : I_byte vi vl) (h1 : ∀ s, s < 6 → vi' (51 + 2 * s) 0 = vi (51 + 2 * s) 0 ∧ vi' (51 + 2 * s) 2 = vi (51 + 2 * s) 2) (h2 : ∀ s, s < 6 → ∀ k, k < 60 → vl' (52 + 2 * s) k = vl (52 + 2 * s) k) : I_byte vi' vl' := by
  intro s hs e1 e2 k hk
  rw [(h1 s hs).1] at e1
  rw [(h1 s hs).2] at e2
  rw [h2 s hs k hk]
  exact h s hs e1 e2 k hk
theorem bind_some_of {α β : Type} {a : Option α} {f : α → Option β} {b : β} (h : a.bind f = some b) : ∃ x, a = some x ∧ f x = some b := Option.bind_eq_some_iff.mp h
theorem ite_or {α : Type} {c : Prop} {d : Decidable c} {a b x : α} (h : @ite α c d a b = x) : (c ∧ a = x) ∨ (¬ c ∧ b = x) := by
  by_cases e : c
  · exact Or.inl ⟨e, by rw [← h, if_pos e]⟩
  · exact Or.inr ⟨e, by rw [← h, if_neg e]⟩
theorem putM_fr {x1 x2 : Int32} {x3 : Int64} {vi : VI} {vl vl2 : VL} {r : Int32} (h : fX10_put x1 x2 x3 vi vl = some (r, vl2)) : ∀ o i, o ≠ 96 → vl2 o i = vl o i := by
  unfold fX10_put at h
  obtain ⟨r1, -, h⟩ := bind_some_of h
  repeat' split at h
  all_goals first
    | (have e := (Prod.mk.inj (Option.some.inj h)).2
       intro o i q
       rw [← e]
       first
         | done
         | rfl
         | exact up_o q)
    | exact absurd h (by simp)
theorem p_put2 {vi : VI} {vl : VL} (h : I_shelf vi vl) (hb : I_byte vi vl) (x1 x2 : Int32) (x3 : Int64) : ∃ r vl1, fX9_put x1 x2 x3 vi vl = some (r, vl1) ∧ ∃ vl2, fX10_put x1 x2 x3 vi vl1 = some (r, vl2) ∧ I_shelf vi vl2 ∧ I_byte vi vl2 := by
  obtain ⟨r, vl1, e1, vl2, e2, e3⟩ := p_put h x1 x2 x3
  refine ⟨r, vl1, e1, vl2, e2, e3, byte_frame (vi := vi) (vl := vl1) ?_ (fun _ _ => ⟨rfl, rfl⟩) fun s _ k _ => putM_fr e2 _ _ (by omega)⟩
  unfold fX9_put at e1
  obtain ⟨r0, a1, a2, a3⟩ := p_why h x1 x2
  rw [a1, Option.bind_some] at e1
  by_cases c : 0 ≤ r0.toInt
  · obtain ⟨s, i, q, hs, hi, hq, rfl, rfl, h2, -⟩ := a3 c
    rw [if_pos (by rw [tle, l0]; exact c), if_inb (by rw [tnI (by omega)]; omega), nI_clamp (show s < 2 ^ 31 by omega)] at e1
    obtain ⟨w, b1, b2⟩ := bind_some_of e1
    rw [if_inb (by rw [tnI (by omega)]; omega), nI_clamp (by omega)] at b2
    have ev := (Prod.mk.inj (Option.some.inj b2)).2
    intro t ht g1 g2 k hk
    rw [← ev, show 51 + 2 * s + 1 = 52 + 2 * s by omega]
    by_cases ct : t = s ∧ k = i
    · obtain ⟨rfl, rfl⟩ := ct
      rw [up_s]
      unfold fX6_lowestBits at b1
      rw [if_pos g2] at b1
      rw [← Option.some.inj b1]
      exact small_of _
    · rw [up_at, if_neg (by omega)]
      exact hb t ht g1 g2 k hk
  · rw [if_neg (by rw [tle, l0]; exact c)] at e1
    rw [← (Prod.mk.inj (Option.some.inj e1)).2]
    exact hb
theorem rowM_loop {x1 : Int32} : ∀ (F : Nat) (x4 : Int32) (vi : VI) (vl : VL) (r : Int32) (vi2 : VI) (vl2 : VL), fX10_row_54 F x1 x4 vi vl = some (r, vi2, vl2) → vi2 = vi ∧ ∀ o i, o ≠ 96 → vl2 o i = vl o i := by
  intro F
  induction F with
  | zero => intro x4 vi vl r vi2 vl2 h; rw [fX10_row_54] at h; exact absurd h (by simp)
  | succ F ih =>
    intro x4 vi vl r vi2 vl2 h
    rw [fX10_row_54] at h
    split at h
    · have e := Option.some.inj h
      obtain ⟨-, e2⟩ := Prod.mk.inj e
      obtain ⟨e3, e4⟩ := Prod.mk.inj e2
      exact ⟨e3.symm, fun o i _ => by rw [e4]⟩
    · split at h
      · obtain ⟨a1, a2⟩ := ih _ _ _ _ _ _ h
        exact ⟨a1, fun o i q => by rw [a2 o i q, up_o q]⟩
      · exact absurd h (by simp)
theorem rowM_fr {x1 x2 x3 : Int32} {vi : VI} {vl : VL} {r : Int32} {vi2 : VI} {vl2 : VL} (h : fX10_row x1 x2 x3 vi vl = some (r, vi2, vl2)) : (∀ o i, o ≠ 94 → o ≠ 95 → vi2 o i = vi o i) ∧ ∀ o i, o ≠ 96 → vl2 o i = vl o i := by
  have same : ∀ {r : Int32} {vi2 : VI} {vl2 : VL} {x : Int32}, some (x, vi, vl) = some (r, vi2, vl2) → (∀ o i, o ≠ 94 → o ≠ 95 → vi2 o i = vi o i) ∧ ∀ o i, o ≠ 96 → vl2 o i = vl o i := by
    intro r vi2 vl2 x h
    obtain ⟨-, e2⟩ := Prod.mk.inj (Option.some.inj h)
    obtain ⟨e3, e4⟩ := Prod.mk.inj e2
    exact ⟨fun o i _ _ => by rw [e3], fun o i _ => by rw [e4]⟩
  unfold fX10_row at h
  obtain ⟨r1, -, h⟩ := bind_some_of h
  split at h
  · obtain ⟨r2, -, h⟩ := bind_some_of h
    split at h
    · split at h
      · split at h
        · split at h
          · obtain ⟨a1, a2⟩ := rowM_loop _ _ _ _ _ _ _ h
            exact ⟨fun o i q1 q2 => by rw [a1, up_o q2, up_o q1], a2⟩
          · exact absurd h (by simp)
        · exact same h
      · exact same h
    · exact same h
  · exact same h
theorem fillJ_fr {x0 N : Nat} {x : Int64} : ∀ (F : Nat) (i n : Int32) (vl vl' : VL), fJ7_fill_d0a16_6 x0 N F x i n vl = some vl' → ∀ o k, o ≠ x0 → vl' o k = vl o k := by
  intro F
  induction F with
  | zero => intro i n vl vl' h; rw [fJ7_fill_d0a16_6] at h; exact absurd h (by simp)
  | succ F ih =>
    intro i n vl vl' h o k q
    rw [fJ7_fill_d0a16_6] at h
    split at h
    · rw [← Option.some.inj h]
    · split at h
      · rw [ih _ _ _ _ h o k q, up_o q]
      · exact absurd h (by simp)
theorem p_row2 {vi : VI} {vl : VL} (h : I_shelf vi vl) (hb : I_byte vi vl) (x1 x2 x3 : Int32) : ∃ r vi1 vl1, fX9_row x1 x2 x3 vi vl = some (r, vi1, vl1) ∧ ∃ vi2 vl2, fX10_row x1 x2 x3 vi1 vl1 = some (r, vi2, vl2) ∧ I_shelf vi2 vl2 ∧ I_byte vi2 vl2 ∧ ∀ o i, (o < 51 ∨ 62 < o) → o ≠ 94 → o ≠ 95 → vi2 o i = vi o i := by
  obtain ⟨r, vi1, vl1, e1, vi2, vl2, e2, e3, e4⟩ := p_row h x1 x2 x3
  obtain ⟨m1, m2⟩ := rowM_fr e2
  refine ⟨r, vi1, vl1, e1, vi2, vl2, e2, e3, byte_frame (vi := vi1) (vl := vl1) ?_ (fun s _ => ⟨m1 _ _ (by omega) (by omega), m1 _ _ (by omega) (by omega)⟩) (fun s _ k _ => m2 _ _ (by omega)), e4⟩
  have same : ∀ {x : Int32}, some (x, vi, vl) = some (r, vi1, vl1) → I_byte vi1 vl1 := by
    intro x h
    obtain ⟨-, e2⟩ := Prod.mk.inj (Option.some.inj h)
    obtain ⟨e3, e4⟩ := Prod.mk.inj e2
    rw [← e3, ← e4]; exact hb
  unfold fX9_row at e1
  rw [shelf9_eq] at e1
  simp only [Option.bind_some, decide_eq_true_eq] at e1
  split at e1
  · rename_i c
    obtain ⟨s, hs, rfl⟩ := ex_nI (x := x1) (N := 6) c.1 (by omega) (by omega)
    obtain ⟨r2, -, e1⟩ := bind_some_of e1
    split at e1
    · split at e1
      · split at e1
        · rw [if_inb (by omega), nI_clamp (by omega)] at e1
          obtain ⟨w, f1, f2⟩ := bind_some_of e1
          obtain ⟨-, g2⟩ := Prod.mk.inj (Option.some.inj f2)
          obtain ⟨g3, g4⟩ := Prod.mk.inj g2
          rw [← g3, ← g4]
          have hz : ∀ k, k < 60 → w (52 + 2 * s) k = 0 := by
            obtain ⟨w', y1, y2⟩ := fillJ (x0 := 51 + 2 * s + 1) (N := 60) (x := 0) (by omega) 60 0 FU vl (by omega) (by rw [FU_eq]; omega) (by omega)
            unfold fJ7_fill_d0a16 at f1
            rw [show (Int32.ofNat 60) = nI 60 from rfl, show (0 : Int32) = nI 0 from rfl, y1] at f1
            intro k hk
            rw [← Option.some.inj f1, y2, if_pos ⟨by omega, by omega, hk⟩]
          have hfr : ∀ o k, o ≠ 52 + 2 * s → w o k = vl o k := fun o k q => by
            unfold fJ7_fill_d0a16 at f1
            exact fillJ_fr _ _ _ _ _ f1 o k (by omega)
          intro t ht k1 k2 k hk
          by_cases ct : t = s
          · subst ct
            rw [hz k hk]
            rfl
          · rw [hfr _ _ (by omega)]
            rw [up_o (by omega), up_o (by omega), up_o (by omega)] at k1
            rw [up_o (by omega), up_o (by omega), up_o (by omega)] at k2
            exact hb t ht k1 k2 k hk
        · exact same e1
      · exact same e1
    · exact same e1
  · exact same e1
theorem shiftM_150 {vi : VI} {x3 x4 x5 : Int32} : ∀ (F : Nat) (x6 : Int32) (vl : VL) (r : Int32) (vl2 : VL), fX10_shift_150 vi F x3 x4 x5 x6 vl = some (r, vl2) → ∀ o i, o ≠ 96 → vl2 o i = vl o i := by
  intro F
  induction F with
  | zero => intro x6 vl r vl2 h; rw [fX10_shift_150] at h; exact absurd h (by simp)
  | succ F ih =>
    intro x6 vl r vl2 h o i q
    rw [fX10_shift_150] at h
    split at h
    · rw [(Prod.mk.inj (Option.some.inj h)).2]
    · split at h
      · split at h
        · rw [ih _ _ _ _ h o i q, up_o q]
        · exact absurd h (by simp)
      · exact absurd h (by simp)
theorem shiftM_113 {vi : VI} {x1 x2 x3 x4 x5 : Int32} : ∀ (F : Nat) (x6 : Int32) (vl : VL) (r : Int32) (vl2 : VL), fX10_shift_113 vi F x1 x2 x3 x4 x5 x6 vl = some (r, vl2) → ∀ o i, o ≠ 96 → o ≠ 97 → vl2 o i = vl o i := by
  intro F
  induction F with
  | zero => intro x6 vl r vl2 h; rw [fX10_shift_113] at h; exact absurd h (by simp)
  | succ F ih =>
    intro x6 vl r vl2 h o i q q'
    rw [fX10_shift_113] at h
    split at h
    · exact shiftM_150 _ _ _ _ _ h o i q
    · split at h
      · split at h
        · rw [ih _ _ _ _ h o i q q', up_o q']
        · exact absurd h (by simp)
      · exact absurd h (by simp)
theorem shiftM_fr {vi : VI} {vl vl2 : VL} {x1 x2 x3 x4 x5 r : Int32} (h : fX10_shift x1 x2 x3 x4 x5 vi vl = some (r, vl2)) : ∀ o i, o ≠ 96 → o ≠ 97 → vl2 o i = vl o i := by
  have same : ∀ {x : Int32}, some (x, vl) = some (r, vl2) → ∀ o i, o ≠ 96 → o ≠ 97 → vl2 o i = vl o i := fun h o i _ _ => by rw [(Prod.mk.inj (Option.some.inj h)).2]
  have no : (none : Option (Int32 × VL)) = some (r, vl2) → ∀ o i, o ≠ 96 → o ≠ 97 → vl2 o i = vl o i := fun h => absurd h (by simp)
  unfold fX10_shift at h
  obtain ⟨r1, -, h⟩ := bind_some_of h
  rcases ite_or h with ⟨-, h⟩ | ⟨-, h⟩
  · obtain ⟨r2, -, h⟩ := bind_some_of h
    rcases ite_or h with ⟨-, h⟩ | ⟨-, h⟩
    · rcases ite_or h with ⟨-, h⟩ | ⟨-, h⟩
      · rcases ite_or h with ⟨-, h⟩ | ⟨-, h⟩
        · exact same h
        · rcases ite_or h with ⟨-, h⟩ | ⟨-, h⟩
          · rcases ite_or h with ⟨-, h⟩ | ⟨-, h⟩
            · exact same h
            · rcases ite_or h with ⟨-, h⟩ | ⟨-, h⟩
              · rcases ite_or h with ⟨-, h⟩ | ⟨-, h⟩
                · exact same h
                · rcases ite_or h with ⟨-, h⟩ | ⟨-, h⟩
                  · rcases ite_or h with ⟨-, h⟩ | ⟨-, h⟩
                    · rcases ite_or h with ⟨-, h⟩ | ⟨-, h⟩
                      · rcases ite_or h with ⟨-, h⟩ | ⟨-, h⟩
                        · exact same h
                        · rcases ite_or h with ⟨-, h⟩ | ⟨-, h⟩
                          · exact same h
                          · rcases ite_or h with ⟨-, h⟩ | ⟨-, h⟩
                            · exact same h
                            · rcases ite_or h with ⟨-, h⟩ | ⟨-, h⟩
                              · rcases ite_or h with ⟨-, h⟩ | ⟨-, h⟩
                                · exact same h
                                · rcases ite_or h with ⟨-, h⟩ | ⟨-, h⟩
                                  · rcases ite_or h with ⟨-, h⟩ | ⟨-, h⟩
                                    · exact shiftM_113 _ _ _ _ _ h
                                    · exact same h
                                  · exact no h
                              · exact no h
                      · exact same h
                    · exact no h
                  · exact no h
              · exact no h
          · exact no h
      · exact no h
    · exact same h
  · exact same h
theorem p_shift2 {vi : VI} {vl : VL} (h : I_shelf vi vl) (hb : I_byte vi vl) (x1 x2 x3 x4 x5 : Int32) : ∃ r vl1, fX9_shift x1 x2 x3 x4 x5 vi vl = some (r, vl1) ∧ ∃ vl2, fX10_shift x1 x2 x3 x4 x5 vi vl1 = some (r, vl2) ∧ I_shelf vi vl2 ∧ I_byte vi vl2 := by
  obtain ⟨r, vl1, e1, vl2, e2, e3⟩ := p_shift h x1 x2 x3 x4 x5
  refine ⟨r, vl1, e1, vl2, e2, e3, byte_frame (vi := vi) (vl := vl1) ?_ (fun _ _ => ⟨rfl, rfl⟩) fun s _ k _ => shiftM_fr e2 _ _ (by omega) (by omega)⟩
  have same : ∀ {x : Int32}, some (x, vl) = some (r, vl1) → I_byte vi vl1 := by
    intro x h
    rw [← (Prod.mk.inj (Option.some.inj h)).2]; exact hb
  unfold fX9_shift at e1
  rw [shelf9_eq, shelf9_eq] at e1
  simp only [Option.bind_some, decide_eq_true_eq, isRow_eq] at e1
  rcases ite_or e1 with ⟨c1, e1⟩ | ⟨-, e1⟩
  · obtain ⟨s, hs, rfl⟩ := ex_nI (x := x1) (N := 6) c1.1 (by omega) (by omega)
    rcases ite_or e1 with ⟨c2, e1⟩ | ⟨-, e1⟩
    · obtain ⟨t, ht, rfl⟩ := ex_nI (x := x3) (N := 6) c2.1 (by omega) (by omega)
      rw [if_inb (by omega), if_inb (by omega), nI_clamp (show s < 2 ^ 31 by omega), nI_clamp (show t < 2 ^ 31 by omega)] at e1
      rcases ite_or e1 with ⟨-, e1⟩ | ⟨-, e1⟩
      · exact same e1
      · rcases ite_or e1 with ⟨-, e1⟩ | ⟨-, e1⟩
        · exact same e1
        · rcases ite_or e1 with ⟨c3, e1⟩ | ⟨-, e1⟩
          · rcases ite_or e1 with ⟨c4, e1⟩ | ⟨-, e1⟩
            · rcases ite_or e1 with ⟨c5, e1⟩ | ⟨-, e1⟩
              · obtain ⟨r7, -, e1⟩ := bind_some_of e1
                rcases ite_or e1 with ⟨-, e1⟩ | ⟨-, e1⟩
                · obtain ⟨r8, -, e1⟩ := bind_some_of e1
                  rcases ite_or e1 with ⟨-, e1⟩ | ⟨-, e1⟩
                  · rcases ite_or e1 with ⟨c6, e1⟩ | ⟨-, e1⟩
                    · rw [← (Prod.mk.inj (Option.some.inj e1)).2]
                      have hc : ¬ x2 < 0 ∧ ¬ x4 < 0 ∧ ¬ x5 < 0 ∧ x2.toNatClampNeg + x5.toNatClampNeg ≤ 60 ∧ x4.toNatClampNeg + x5.toNatClampNeg ≤ 60 := by
                        unfold cpok at c6
                        exact of_decide_eq_true c6
                      intro y hy k1 k2 k hk
                      by_cases cy : y = t
                      · subst cy
                        rw [show 51 + 2 * y + 1 = 52 + 2 * y by omega, row_s]
                        unfold va_cpy
                        split
                        · rw [show 51 + 2 * s + 1 = 52 + 2 * s by omega]
                          exact hb s hs c3 (c5.trans k2) _ (by omega)
                        · exact hb y hy k1 k2 k hk
                      · rw [row_o (by omega)]
                        exact hb y hy k1 k2 k hk
                    · exact absurd e1 (by simp)
                  · exact same e1
                · exact same e1
              · exact same e1
            · exact same e1
          · exact same e1
    · exact same e1
  · exact same e1
theorem keepM_fr {x1 x2 : Int32} {vi vi2 : VI} {r : Int32} (h : fX10_keep x1 x2 vi = some (r, vi2)) : ∀ o i, o ≠ 94 → vi2 o i = vi o i := by
  have same : ∀ {x : Int32}, some (x, vi) = some (r, vi2) → ∀ o i, o ≠ 94 → vi2 o i = vi o i := fun h o i _ => by rw [(Prod.mk.inj (Option.some.inj h)).2]
  have k22 : fX10_keep_22 x1 x2 vi = some (r, vi2) → ∀ o i, o ≠ 94 → vi2 o i = vi o i := by
    intro h
    unfold fX10_keep_22 at h
    rcases ite_or h with ⟨-, h⟩ | ⟨-, h⟩
    · intro o i q
      rw [← (Prod.mk.inj (Option.some.inj h)).2, up_o q]
    · exact absurd h (by simp)
  unfold fX10_keep at h
  obtain ⟨r1, -, h⟩ := bind_some_of h
  rcases ite_or h with ⟨-, h⟩ | ⟨-, h⟩
  · rcases ite_or h with ⟨-, h⟩ | ⟨-, h⟩
    · exact k22 h
    · obtain ⟨r2, -, h⟩ := bind_some_of h
      rcases ite_or h with ⟨-, h⟩ | ⟨-, h⟩
      · exact k22 h
      · exact same h
  · exact same h
theorem p_keep2 {vi : VI} {vl : VL} (h : I_shelf vi vl) (hb : I_body vi) (hy : I_byte vi vl) (x1 x2 : Int32) : ∃ r vi1, fX9_keep x1 x2 vi = some (r, vi1) ∧ ∃ vi2, fX10_keep x1 x2 vi1 = some (r, vi2) ∧ I_shelf vi2 vl ∧ I_byte vi2 vl ∧ ∀ o i, (o < 51 ∨ 62 < o) → o ≠ 94 → vi2 o i = vi o i := by
  obtain ⟨r, vi1, e1, vi2, e2, e3, e4⟩ := p_keep h hb x1 x2
  refine ⟨r, vi1, e1, vi2, e2, e3, byte_frame (vi := vi1) (vl := vl) ?_ (fun s _ => ⟨keepM_fr e2 _ _ (by omega), keepM_fr e2 _ _ (by omega)⟩) (fun _ _ _ _ => rfl), e4⟩
  have same : ∀ {x : Int32}, some (x, vi) = some (r, vi1) → I_byte vi1 vl := by
    intro x h
    rw [← (Prod.mk.inj (Option.some.inj h)).2]; exact hy
  have k25 : fX9_keep_25 x1 x2 vi = some (r, vi1) → (0 ≤ x1.toInt ∧ x1.toInt ≤ 5) → I_byte vi1 vl := by
    intro h c
    obtain ⟨s, hs, rfl⟩ := ex_nI (x := x1) (N := 6) c.1 (by omega) (by omega)
    unfold fX9_keep_25 at h
    rw [if_inb (by omega), nI_clamp (by omega)] at h
    have go : ∀ y : Int32, y ≠ 2 → fX9_keep_43 x2 (51 + 2 * s) (51 + 2 * s) y vi = some (r, vi1) → I_byte vi1 vl := by
      intro y hy2 h
      unfold fX9_keep_43 at h
      rw [← (Prod.mk.inj (Option.some.inj h)).2]
      intro t ht k1 k2 k hk
      by_cases ct : t = s
      · subst ct
        rw [up_i (by decide), up_s] at k1
        exact absurd k1 hy2
      · rw [up_o (by omega), up_o (by omega)] at k1
        rw [up_o (by omega), up_o (by omega)] at k2
        exact hy t ht k1 k2 k hk
    rcases ite_or h with ⟨-, h⟩ | ⟨-, h⟩
    · exact go 0 (by decide) h
    · exact go 1 (by decide) h
  unfold fX9_keep at e1
  rw [shelf9_eq, Option.bind_some] at e1
  rcases ite_or e1 with ⟨c, e1⟩ | ⟨-, e1⟩
  · rw [decide_eq_true_eq] at c
    rcases ite_or e1 with ⟨-, e1⟩ | ⟨-, e1⟩
    · exact k25 e1 c
    · obtain ⟨r2, -, e1⟩ := bind_some_of e1
      rcases ite_or e1 with ⟨-, e1⟩ | ⟨-, e1⟩
      · exact k25 e1 c
      · exact same e1
  · exact same e1
/-- when a SHELF can be read as bytes -/
theorem bytes_here {vi : VI} {s : Nat} (hs : s < 6) (h : fX9_refusalOfBytes (nI s) vi = some 0) : vi (51 + 2 * s) 0 = 2 ∧ vi (51 + 2 * s) 2 = 0 := by
  have hb : 0 ≤ (nI s).toInt ∧ (nI s).toInt < (6 : Nat) := by rw [tnI (by omega)]; omega
  unfold fX9_refusalOfBytes fX6_isBytes at h
  rw [if_inb hb, if_inb hb, nI_clamp (by omega), isRow_eq] at h
  rcases ite_or h with ⟨-, h⟩ | ⟨-, h⟩
  · exact absurd (Option.some.inj h) (by decide)
  · rw [Option.bind_some] at h
    obtain ⟨x, h1, h2⟩ := bind_some_of h
    rcases ite_or h1 with ⟨c1, h1⟩ | ⟨-, h1⟩
    · rcases ite_or h1 with ⟨c2, h1⟩ | ⟨-, h1⟩
      · exact ⟨of_decide_eq_true c1, c2⟩
      · rw [← Option.some.inj h1, if_neg (by decide)] at h2
        exact absurd (Option.some.inj h2) (by decide)
    · rw [← Option.some.inj h1, if_neg (by decide)] at h2
      exact absurd (Option.some.inj h2) (by decide)
theorem p_judge {ns : Nat} {vi : VI} {vl : VL} (hn : I_num ns vi) (hd : I_dust ns vi) (hs : I_shelf vi vl) (hy : I_byte vi vl) (x1 x2 : Int32) : ∃ r, fX9_judge ns x1 x2 vi vl = some r ∧ fX10_judge x1 x2 vi vl = some r := by
  have h5 := hn.1
  unfold fX9_judge fX10_judge
  rw [sillAt_eq h5 hn.2.1, isSill_eq h5 hn.2.2.1, shelf9_eq, shelf10_eq]
  simp only [Option.bind_some, decide_eq_true_eq]
  by_cases c2 : 0 ≤ x2.toInt ∧ x2.toInt < ns
  · rw [if_pos c2]
    obtain ⟨j, hj, rfl⟩ := ex_nI c2.1 c2.2 (by omega)
    simp only [optS, nI_clamp (show j < 2 ^ 31 by omega)]
    by_cases c1 : 0 ≤ x1.toInt ∧ x1.toInt ≤ 5
    · rw [if_pos c1, if_pos c1, if_pos c2]
      obtain ⟨s, h6, rfl⟩ := ex_nI (x := x1) (N := 6) c1.1 (by omega) (by omega)
      have hb : 0 ≤ (nI s).toInt ∧ (nI s).toInt < (6 : Nat) := by omega
      have cs : (nI s).toNatClampNeg = s := nI_clamp (by omega)
      have bj : 0 ≤ (nI j).toInt ∧ (nI j).toInt < (5 : Nat) := by omega
      have cj : (nI j).toNatClampNeg = j := nI_clamp (by omega)
      obtain ⟨r0, a1, a2, a3⟩ := refusal_both hs (vm := vi) (fun _ _ _ _ _ => rfl) h6
      rw [a1, a2]
      simp only [Option.bind_some]
      rcases a3 with rfl | rfl | rfl
      · obtain ⟨y1, y2⟩ := bytes_here h6 a1
        rw [if_pos (show (0 : Int32) ≤ 0 by decide), if_inb hb, if_pos (show (0 : Int32) ≤ 0 by decide), cs]
        obtain ⟨-, ⟨z, hz, z1, z2⟩, evl⟩ := hs s h6
        obtain ⟨n, d1, d2, d3, d4⟩ := hd j hj
        rw [show 98 + 5 * j + 1 = 99 + 5 * j by omega, d2, z1]
        have em : ((if nI n < nI z then nI n else nI z) : Int32) = nI (min n z) := by
          by_cases c : n < z
          · rw [if_pos (by rw [tlt, tnI (by omega), tnI (by omega)]; omega), Nat.min_eq_left (by omega)]
          · rw [if_neg (by rw [tlt, tnI (by omega), tnI (by omega)]; omega), Nat.min_eq_right (by omega)]
        rw [em]
        have key : ∀ (m k : Nat), min n z - k = m → k ≤ min n z → ∃ r, (∀ F, m < F → fX9_judge_62 ns vi vl F (98 + 5 * j) (51 + 2 * s) (nI (min n z)) (nI k) = some r) ∧ ∀ F, m < F → fX10_judge_33 vi vl F (nI s) (nI j) (nI k) = some r := by
          intro m
          induction m with
          | zero =>
            intro k q1 q2
            have hk : k = min n z := by omega
            have c : nI (min n z) ≤ nI k := by rw [tle, tnI (by omega), tnI (by omega)]; omega
            refine ⟨if n = z then -2 else nI k, fun F hF => ?_, fun F hF => ?_⟩
            · obtain ⟨F, rfl⟩ : ∃ F', F = F' + 1 := ⟨F - 1, by omega⟩
              rw [fX9_judge_62, if_pos c, show 98 + 5 * j + 1 = 99 + 5 * j by omega, d2, z1]
              by_cases ce : n = z
              · rw [if_pos (by rw [ce]), if_pos ce]
              · rw [if_neg (by rw [nI_inj (by omega) (by omega)]; omega), if_neg ce, hk]
            · obtain ⟨F, rfl⟩ : ∃ F', F = F' + 1 := ⟨F - 1, by omega⟩
              rw [fX10_judge_33, if_inb hb, cs, z2]
              by_cases cz : k < z
              · rw [if_pos (by rw [tlt, tnI (by omega), tnI (by omega)]; omega), fX10_judge_53, if_inb hb, cs, z2, if_neg (by rw [tle, tnI (by omega), tnI (by omega)]; omega), if_inb bj, cj, d3, if_pos (by rw [tle, tnI (by omega), tnI (by omega)]; omega), if_neg (by omega)]
              · rw [if_neg (by rw [tlt, tnI (by omega), tnI (by omega)]; omega), if_inb bj, cj, d3]
                by_cases ce : n = z
                · rw [if_pos (by rw [tle, tnI (by omega), tnI (by omega)]; omega), if_pos ce]
                · rw [if_neg (by rw [tle, tnI (by omega), tnI (by omega)]; omega), fX10_judge_53, if_inb hb, cs, z2, if_pos (by rw [tle, tnI (by omega), tnI (by omega)]; omega), if_neg ce]
          | succ m ih =>
            intro k q1 q2
            have c : ¬ nI (min n z) ≤ nI k := by rw [tle, tnI (by omega), tnI (by omega)]; omega
            obtain ⟨r, e1, e2⟩ := ih (k + 1) (by omega) (by omega)
            have b60 : 0 ≤ (nI k).toInt ∧ (nI k).toInt < (60 : Nat) := by rw [tnI (by omega)]; omega
            have b12 : 0 ≤ (nI k).toInt ∧ (nI k).toInt < (12 : Nat) := by rw [tnI (by omega)]; omega
            have ck : (nI k).toNatClampNeg = k := nI_clamp (by omega)
            have el := evl k (by omega)
            have ew := (d4 k (by omega)).1
            have sm := hy s h6 y1 y2 k (by omega)
            rw [show 52 + 2 * s = 51 + 2 * s + 1 by omega, el] at sm
            have stepM : ∀ F, fX10_judge_33 vi vl (F + 1) (nI s) (nI j) (nI k) = if (vl 96 (60 * s + k)).toInt32 = vi 68 (12 * j + k) then fX10_judge_33 vi vl F (nI s) (nI j) (nI (k + 1)) else some (nI k) := by
              intro F
              rw [fX10_judge_33, if_inb hb, cs, z2, if_pos (by rw [tlt, tnI (by omega), tnI (by omega)]; omega), fX10_judge_53, if_inb hb, cs, z2, if_neg (by rw [tle, tnI (by omega), tnI (by omega)]; omega), if_inb bj, cj, d3, if_neg (by rw [tle, tnI (by omega), tnI (by omega)]; omega), at_eq h6 (by omega), Option.bind_some, whomAt_eq (by omega) (by omega), Option.bind_some, nI_1]
            have stepC : ∀ F, fX9_judge_62 ns vi vl (F + 1) (98 + 5 * j) (51 + 2 * s) (nI (min n z)) (nI k) = if lg_cmp (vl 96 (60 * s + k)) (vi 68 (12 * j + k)).toInt64 = 0 then fX9_judge_62 ns vi vl F (98 + 5 * j) (51 + 2 * s) (nI (min n z)) (nI (k + 1)) else some (nI k) := by
              intro F
              rw [fX9_judge_62, if_neg c, if_inb b60, if_inb b12, ck, el, show 98 + 5 * j + 1 + 1 = 100 + 5 * j by omega, ew, nI_1]
            by_cases cw : (vl 96 (60 * s + k)).toInt32 = vi 68 (12 * j + k)
            · have cl : lg_cmp (vl 96 (60 * s + k)) (vi 68 (12 * j + k)).toInt64 = 0 := by
                rw [lg_cmp_eq, ← cw]; exact sm
              refine ⟨r, fun F hF => ?_, fun F hF => ?_⟩
              · obtain ⟨F, rfl⟩ : ∃ F', F = F' + 1 := ⟨F - 1, by omega⟩
                rw [stepC, if_pos cl]; exact e1 F (by omega)
              · obtain ⟨F, rfl⟩ : ∃ F', F = F' + 1 := ⟨F - 1, by omega⟩
                rw [stepM, if_pos cw]; exact e2 F (by omega)
            · have cl : ¬ lg_cmp (vl 96 (60 * s + k)) (vi 68 (12 * j + k)).toInt64 = 0 := by
                rw [lg_cmp_eq]
                intro e
                exact cw (by rw [e, Int32.toInt32_toInt64])
              refine ⟨nI k, fun F hF => ?_, fun F hF => ?_⟩
              · obtain ⟨F, rfl⟩ : ∃ F', F = F' + 1 := ⟨F - 1, by omega⟩
                rw [stepC, if_neg cl]
              · obtain ⟨F, rfl⟩ : ∃ F', F = F' + 1 := ⟨F - 1, by omega⟩
                rw [stepM, if_neg cw]
        obtain ⟨r, e1, e2⟩ := key (min n z) 0 (by omega) (by omega)
        exact ⟨r, e1 FU (by rw [FU_eq]; omega), e2 FU (by rw [FU_eq]; omega)⟩
      · exact ⟨-11, by rw [if_neg (by decide)], by rw [if_neg (by decide)]⟩
      · exact ⟨-12, by rw [if_neg (by decide)], by rw [if_neg (by decide)]⟩
    · rw [if_neg c1, if_neg c1]
      exact ⟨-1, rfl, rfl⟩
  · rw [if_neg c2, if_neg c2]
    refine ⟨-1, rfl, ?_⟩
    split <;> rfl
