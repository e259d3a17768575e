/-! READING A TEXT: all operands -/
theorem bind_id (x : Option VI) : (x.bind fun r => some r) = x := by cases x <;> rfl
theorem g8_1 (D : Nat) (a b : Int32) (v : VI) : fX8g (D + 1) 1 a b v = fX8_readOperand (fX8g D) a v := by rw [fX8g, if_neg (by decide), if_pos rfl]
theorem g8_0 (D : Nat) (a b : Int32) (v : VI) : fX8g (D + 1) 0 a b v = fX8_readPart (fX8g D) a b v := by rw [fX8g, if_pos rfl]
theorem g8_2 (D : Nat) (a b : Int32) (v : VI) : fX8g (D + 1) 2 a b v = fX8_readOpened (fX8g D) a b v := by rw [fX8g, if_neg (by decide), if_neg (by decide), if_pos rfl]
theorem g10_0 (D : Nat) (v : VI) : fX10g (D + 1) 0 v = fX10_operand (fX10g D) v := by rw [fX10g, if_pos rfl]
/-- what the class does at a doomed place, and with a fault -/
theorem badC_pass {vc : VI} {n f : Nat} (h : BadC vc n f) (hf : f ≤ n) (hn : n ≤ 120) {k : Int32} (hk : k.toInt < 48 ∨ 57 < k.toInt) : fX8_passes k vc = some (false, vc) := by
  obtain ⟨h1, -, h3⟩ := h
  unfold fX8_passes
  by_cases c : vc 3 3 = -1
  · rw [if_pos c]
    rcases h3 with e | ⟨e1, e2, e3, e4, e5⟩
    · rw [c, teq, lm1, tnI (by omega)] at e
      omega
    · rw [h1, e2, if_neg (by rw [tle, tnI (by omega), tnI (by omega)]; omega), if_inb (by rw [tnI (by omega)]; omega), nI_clamp (by omega), if_neg (by intro e; rw [← e] at hk; omega)]
  · rw [if_neg c]
theorem operand_both {o D D' : Nat} (ho : o ≤ 6) (hA : o < 6 → PSpec (o + 1) (fX8g D 0 0 (nI (o + 1))) (fX10g D' 5)) (hB : o < 6 → PSpec (o + 1) (fX8g D 1 (nI (o + 1)) 0) (fX10g D' 0)) : PSpec o (fX8g (D + 2) 1 (nI o) 0) (fX10g (D' + 1) 0) := by
  have l33 : (33 : Int32).toInt = 33 := rfl
  have l45 : (45 : Int32).toInt = 45 := rfl
  have l48' : (48 : Int32).toInt = 48 := rfl
  have l57' : (57 : Int32).toInt = 57 := rfl
  intro n p c s vc vm hP hs hc
  have hn : n ≤ 120 := hP.1.1
  have hpn := hP.2.1
  obtain ⟨x, y, lr, ly, lx, l1', -, -⟩ := letter hP
  have q2 := hP.2.2.1
  have q5 := hP.2.2.2.2.2.1
  have q7 := hP.2.2.2.2.2.2.2.1
  have q8 := hP.2.2.2.2.2.2.2.2
  rw [g8_1, l1', g10_0]
  unfold fX8_readOperand_33 fX10_operand
  rw [ly, Option.bind_some, name_lr lr]
  -- a digit
  by_cases cd : 48 ≤ x.toInt ∧ x.toInt ≤ 57
  · have cy := (lr_in lr).mp cd
    have hp : p < n ∧ vc 4 p = x := by
      rcases lx with ⟨e, -⟩ | ⟨e1, e2, -⟩
      · rw [e, lm1] at cd; omega
      · exact ⟨e1, e2⟩
    have y1 : ¬ y = 33 := by rw [teq, l33]; omega
    have y2 : ¬ y = 45 := by rw [teq, l45]; omega
    have y3 : ¬ y = 40 := by rw [teq, l40]; omega
    rw [name_neg (Or.inl (by omega)), Option.bind_some, Option.bind_some, if_neg (show ¬ x < 48 by rw [tlt, l48']; omega), if_neg (show ¬ (57 : Int32) < x by rw [tlt, l57']; omega), bind_id, if_pos (show (-1 : Int32) < 0 by decide), if_neg y1, if_neg y2, if_neg y3, bind_id]
    exact num_both hP hs hc hp.1 (by rw [hp.2]; exact cd)
  -- not a digit: the class looks further
  have C58 : ∀ (r : Int32), (if x < 48 then fX8_readOperand_58 (fX8g (D + 1)) (nI o) x r vc else if 57 < x then fX8_readOperand_58 (fX8g (D + 1)) (nI o) x r vc else (fX8_readNumber vc).bind fun r4 => some r4) = fX8_readOperand_58 (fX8g (D + 1)) (nI o) x r vc := by
    intro r
    by_cases q : x < 48
    · rw [if_pos q]
    · rw [if_neg q, if_pos (by rw [tlt, l48'] at q; rw [tlt, l57']; omega)]
  rcases name_of y with e | ⟨k, hk, e, y1, y2⟩
  · rw [e, Option.bind_some, Option.bind_some, C58, if_pos (show (-1 : Int32) < 0 by decide)]
    unfold fX8_readOperand_58
    rw [if_pos (show (-1 : Int32) = -1 from rfl)]
    -- no place to open
    have full : o = 6 → ∃ vc' vm', fX8_readOperand_133 (fX8g (D + 1)) vc = some vc' ∧ fX10_opens vm = some (false, vm') ∧ Bad n p s vc vm vc' vm' := by
      intro h6
      obtain ⟨g1, g2, g3, g4, g5⟩ := fail_both hP (by omega)
      refine ⟨_, _, rfl, ?_, p, p, s, ?_, g3, by omega, by omega, ?_, g5⟩
      · unfold fX10_opens
        rw [q7, if_pos (by rw [h6]; rfl), g2]; rfl
      · rw [q2]; exact g1
      · rw [q2]; exact g4
    -- what stands behind an opening sign
    have inner : o < 6 → fX10_opens vm = some (true, j_up (j_up vm 63 19 (nI (o + 1))) 63 17 (nI (p + 1))) := by
      intro h6
      unfold fX10_opens
      rw [q7, if_neg (by rw [teq, l6, tnI (by omega)]; omega), nI_1, up_i (show (17 : Nat) ≠ 19 by decide), q5, nI_1]
    have innerP : p < n → PS (j_up vc 3 2 (nI (p + 1))) (j_up (j_up vm 63 19 (nI (o + 1))) 63 17 (nI (p + 1))) n (p + 1) (o + 1) c s ∧ FC c vc (j_up vc 3 2 (nI (p + 1))) ∧ FM s vm (j_up (j_up vm 63 19 (nI (o + 1))) 63 17 (nI (p + 1))) := by
      intro hp
      obtain ⟨t, w1, w2, w3, w4, w5, w6, w7, w8⟩ := hP
      have f1 : FC c vc (j_up vc 3 2 (nI (p + 1))) := ⟨fun b i g1 g2 g3 => by rw [up_at, if_neg (by omega)], fun i hi => up_o (by decide)⟩
      have f2 : FM s vm (j_up (j_up vm 63 19 (nI (o + 1))) 63 17 (nI (p + 1))) := ⟨fun b i g1 g2 g3 => by rw [up_at, if_neg (by omega), up_at, if_neg (by omega)], fun i hi => ⟨by rw [up_o (by decide), up_o (by decide)], by rw [up_o (by decide), up_o (by decide)]⟩⟩
      refine ⟨⟨ts_fr t f1.1 f2.1, by omega, up_s, ?_, ?_, up_s, ?_, ?_, ?_⟩, f1, f2⟩
      · rw [up_i (by decide)]; exact w3
      · rw [up_o (by decide)]; exact w4
      · rw [up_i (by decide), up_i (by decide)]; exact w6
      · rw [up_i (by decide), up_s]
      · rw [up_i (by decide), up_i (by decide)]; exact w8
    have hp_of : 0 ≤ x.toInt → p < n := by
      intro hx
      rcases lx with ⟨e, -⟩ | ⟨e1, -, -⟩
      · rw [e, lm1] at hx; omega
      · exact e1
    by_cases c40 : x = 40
    · -- (
      have d40 : y = 40 := (lr_eq lr (by decide) (by decide)).mp c40
      rw [d40, if_neg (show ¬ (40 : Int32) = 33 by decide), if_neg (show ¬ (40 : Int32) = 45 by decide), if_pos (show (40 : Int32) = 40 from rfl), if_pos c40]
      by_cases c6 : o = 6
      · obtain ⟨vc', vm', e1, e2, e3⟩ := full c6
        rw [if_pos (by rw [c6]; decide), e1, e2, Option.bind_some]
        exact ⟨vc', vm', rfl, rfl, Or.inr e3⟩
      · have h6 : o < 6 := by omega
        have hp : p < n := hp_of (by rw [c40, l40]; omega)
        obtain ⟨iP, iC, iM⟩ := innerP hp
        rw [if_neg (by rw [tle, l6, tnI (by omega)]; omega), inner h6, Option.bind_some]
        unfold fX8_readOperand_112
        rw [bind_id, nI_1, q2, nI_1, c40, g8_2]
        unfold fX8_readOpened
        rw [if_pos (show (40 : Int32) = 40 from rfl)]
        simp only [if_true]
        obtain ⟨vc1, vm1, r1, r2, r3⟩ := hA h6 n (p + 1) c s _ _ iP (by omega) (by omega)
        rw [r1, r2, Option.bind_some, Option.bind_some]
        rcases r3 with ⟨p', l, g1, g2, g3, g4, g5, g6, g7⟩ | ⟨f, p', s', g1, g2, g3, g4, g5, g6⟩
        · obtain ⟨x', y', lr', ly', lx', -, -, pass⟩ := letter g4
          obtain ⟨t, w1, w2, w3, w4, w5, w6, w7, w8⟩ := g4
          rw [if_pos w3, pass 41 (by decide), if_pos (show vm1 63 18 < 0 by rw [w6]; decide), ly', Option.bind_some]
          by_cases c41 : x' = 41
          · have d41 : y' = 41 := (lr_eq lr' (by decide) (by decide)).mp c41
            have hp' : p' < n := by
              rcases lx' with ⟨e, -⟩ | ⟨e1, -, -⟩
              · rw [c41] at e; exact absurd e (by decide)
              · exact e1
            rw [if_pos c41, Option.bind_some, if_pos d41, up_i (show (19 : Nat) ≠ 17 by decide), w7, w5, nI_1, nsub1 (by omega)]
            have f1 : FC (c + l.length) vc1 (j_up vc1 3 2 (nI (p' + 1))) := ⟨fun b i g1 g2 g3 => by rw [up_at, if_neg (by omega)], fun i hi => up_o (by decide)⟩
            have f2 : FM (s + l.length) vm1 (j_up (j_up vm1 63 17 (nI (p' + 1))) 63 19 (nI o)) := ⟨fun b i g1 g2 g3 => by rw [up_at, if_neg (by omega), up_at, if_neg (by omega)], fun i hi => ⟨by rw [up_o (by decide), up_o (by decide)], by rw [up_o (by decide), up_o (by decide)]⟩⟩
            refine ⟨j_up vc1 3 2 (nI (p' + 1)), j_up (j_up vm1 63 17 (nI (p' + 1))) 63 19 (nI o), rfl, rfl, Or.inl ⟨p' + 1, l, by omega, by omega, g3, ⟨ts_fr t f1.1 f2.1, by omega, up_s, ?_, ?_, ?_, ?_, up_s, ?_⟩, seg_keep g5 f1 f2 (Nat.le_refl _) (Nat.le_refl _), fc_tr iC (fc_tr g6 f1 (by omega)) (Nat.le_refl _), fm_tr iM (fm_tr g7 f2 (by omega)) (Nat.le_refl _)⟩⟩
            · rw [up_i (by decide)]; exact w3
            · rw [up_o (by decide)]; exact w4
            · rw [up_i (by decide), up_s]
            · rw [up_i (by decide), up_i (by decide)]; exact w6
            · rw [up_i (by decide), up_i (by decide)]; exact w8
          · have d41 : ¬ y' = 41 := fun w => c41 ((lr_eq lr' (by decide) (by decide)).mpr w)
            obtain ⟨z1, z2, z3, z4, z5⟩ := fail_both (o := o + 1) (c := c + l.length) (s := s + l.length) ⟨t, w1, w2, w3, w4, w5, w6, w7, w8⟩ (by omega)
            rw [if_neg c41, Option.bind_some, if_neg d41, z2]
            simp only [Bool.false_eq_true, if_false, Option.bind_some]
            rw [w2]
            exact ⟨_, _, rfl, rfl, Or.inr ⟨p', p', s + l.length, z1, z3, by omega, by omega, fc0_tr iC.1 (fc0_tr g6.1 z4), fm0_tr iM.1 (fm0_tr g7.1 z5)⟩⟩
        · have hfn := g2.2.2.2.2.1
          have mf : ¬ vm1 63 18 < 0 := by rw [g2.2.2.2.1, tlt, tnI (by omega), l0]; omega
          rw [if_neg mf]
          by_cases cf : vc1 3 3 = -1
          · rw [if_pos cf, badC_pass g1 hfn hn (k := 41) (Or.inl (by decide)), Option.bind_some]
            simp only [Bool.false_eq_true, if_false]
            obtain ⟨b1, ⟨cz, b2, b3⟩, b4⟩ := g1
            have ef : vc1 3 2 = nI f := by
              rcases b4 with e | ⟨-, e, -, -, -⟩
              · rw [cf, teq, lm1, tnI (by omega)] at e; omega
              · exact e
            rw [ef]
            refine ⟨_, vm1, rfl, rfl, Or.inr ⟨f, p', s', ⟨?_, ⟨cz, b2, ?_⟩, Or.inl up_s⟩, g2, by omega, by omega, fc0_tr iC.1 (fc0_tr g5 fun b i g1 g2 g3 => by rw [up_at, if_neg (by omega)]), fm0_tr iM.1 g6⟩⟩
            · rw [up_i (by decide)]; exact b1
            · rw [up_o (by decide)]; exact b3
          · rw [if_neg cf]
            exact ⟨vc1, vm1, rfl, rfl, Or.inr ⟨f, p', s', g1, g2, by omega, by omega, fc0_tr iC.1 g5, fm0_tr iM.1 g6⟩⟩
    · have d40 : ¬ y = 40 := fun w => c40 ((lr_eq lr (by decide) (by decide)).mpr w)
      -- ! and -
      have unary : ∀ (z code a : Int32), x = z → y = z → 0 ≤ z.toInt → z ≠ 40 → (z = 33 ∧ code = 20033 ∧ a = 3 ∨ z ≠ 33 ∧ code = 20126 ∧ a = 4) → Out n p o c s vc vm (if 6 ≤ nI o then fX8_readOperand_133 (fX8g (D + 1)) vc else fX8_readOperand_112 (fX8g (D + 1)) (nI o) z vc) (fX10_operand_46 (fX10g D') z vm) := by
        intro z code a hx hy hz hz40 hcode
        unfold fX10_operand_46
        by_cases c6 : o = 6
        · obtain ⟨vc', vm', e1, e2, e3⟩ := full c6
          rw [if_pos (by rw [c6]; decide), e1, e2, Option.bind_some]
          exact ⟨vc', vm', rfl, rfl, Or.inr e3⟩
        · have h6 : o < 6 := by omega
          have hp : p < n := hp_of (by rw [hx]; exact hz)
          obtain ⟨iP, iC, iM⟩ := innerP hp
          rw [if_neg (by rw [tle, l6, tnI (by omega)]; omega), inner h6, Option.bind_some]
          unfold fX8_readOperand_112
          rw [bind_id, nI_1, q2, nI_1, g8_2]
          unfold fX8_readOpened
          rw [if_neg hz40]
          simp only [if_true]
          obtain ⟨vc1, vm1, r1, r2, r3⟩ := hB h6 n (p + 1) c s _ _ iP (by omega) (by omega)
          rw [r1, r2, Option.bind_some, Option.bind_some]
          -- the step on either side
          have both : Out n p o c s vc vm (fX8_readOpened_30 (fX8g D) code vc1) (fX10_operand_80 (fX10g D') a (j_up vm1 63 19 (vm1 63 19 - 1))) := by
            unfold fX8_readOpened_30 fX10_operand_80
            rw [bind_id, bind_id]
            have ha : 0 ≤ a.toInt ∧ a.toInt ≤ 127 := by
              rcases hcode with ⟨-, -, e⟩ | ⟨-, -, e⟩ <;> rw [e] <;> decide
            have hst' : ∀ h, hst code (h + 1) = some (h + 1) := by
              intro h
              unfold hst
              rcases hcode with ⟨-, e, -⟩ | ⟨-, e, -⟩
              · rw [e, if_neg (by decide), if_pos (Or.inl rfl), if_neg (by omega)]
              · rw [e, if_neg (by decide), if_pos (Or.inr rfl), if_neg (by omega)]
            have hsi : stepIs code a 0 := by
              rcases hcode with ⟨-, e, e'⟩ | ⟨-, e, e'⟩
              · exact Or.inr (Or.inr (Or.inl ⟨e, e'⟩))
              · exact Or.inr (Or.inr (Or.inr (Or.inl ⟨e, e'⟩)))
            have f2 : ∀ (v : VI) (w : Int32) (q : Nat), FM q v (j_up v 63 19 w) := fun v w q => ⟨fun b i g1 g2 g3 => by rw [up_at, if_neg (by omega)], fun i hi => ⟨up_o (by decide), up_o (by decide)⟩⟩
            rcases r3 with ⟨p', l, g1, g2, g3, g4, g5, g6, g7⟩ | ⟨f, p', s', g1, g2, g3, g4, g5, g6⟩
            · obtain ⟨t, w1, w2, w3, w4, w5, w6, w7, w8⟩ := g4
              rw [w7, nsub1 (by omega)]
              have P2 : PS vc1 (j_up vm1 63 19 (nI o)) n p' o (c + l.length) (s + l.length) := ⟨ts_fr t (fc0_rfl _) (f2 _ _ 0).1, w1, w2, w3, w4, by rw [up_i (by decide)]; exact w5, by rw [up_i (by decide)]; exact w6, up_s, by rw [up_i (by decide)]; exact w8⟩
              obtain ⟨vc2, vm2, b1, b2, b3, b4, b5, b6⟩ := add_both P2 (by omega) (by omega) ha hsi
              refine ⟨vc2, vm2, b1, b2, Or.inl ⟨p', l ++ [code], by omega, ?_, fun h => ?_, ?_, ?_, fc_tr iC (fc_tr g6 b5 (by omega)) (Nat.le_refl _), fm_tr iM (fm_tr g7 (fm_tr (f2 _ _ (s + l.length)) b6 (Nat.le_refl _)) (by omega)) (Nat.le_refl _)⟩⟩
              · rw [List.length_append]; simp; omega
              · rw [hrun_app, g3 h, Option.bind_some]
                show (hst code (h + 1)).bind (fun h' => some h') = some (h + 1)
                rw [hst']; rfl
              · rw [List.length_append]
                exact b3
              · refine seg_app (seg_keep g5 b5 (fm_tr (f2 _ _ (s + l.length)) b6 (Nat.le_refl _)) (Nat.le_refl _) (Nat.le_refl _)) ?_
                rw [show 130 + s + l.length = 130 + (s + l.length) by omega]
                exact b4
            · obtain ⟨vc2, b1, b2, b3⟩ := badC_add g1 code
              have m2 : BadM (j_up vm1 63 19 (vm1 63 19 - 1)) n f p' s' := by
                obtain ⟨y1, y2, y3, y4, y5, y6⟩ := g2
                exact ⟨by rw [up_i (by decide)]; exact y1, by rw [up_i (by decide)]; exact y2, y3, by rw [up_i (by decide)]; exact y4, y5, by rw [up_i (by decide)]; exact y6⟩
              have hp'n := g2.2.2.1
              obtain ⟨vm2, b4, b5, b6⟩ := badM_add m2 (by omega) ha 0
              exact ⟨vc2, vm2, b1, b4, Or.inr ⟨f, p', s' + 1, b2, b5, by omega, by omega, fc0_tr iC.1 (fc0_tr g5 b3), fm0_tr iM.1 (fm0_tr g6 (fm0_tr (f2 _ _ 0).1 b6))⟩⟩
          rcases hcode with ⟨e1, e2, e3⟩ | ⟨e1, e2, e3⟩
          · rw [if_pos e1, if_pos e1, ← e2, ← e3]; exact both
          · rw [if_neg e1, if_neg e1, ← e2, ← e3]; exact both
      rw [if_neg d40]
      by_cases c33 : x = 33
      · have d33 : y = 33 := (lr_eq lr (by decide) (by decide)).mp c33
        rw [if_neg c40, if_pos c33, if_pos d33, c33, d33]
        exact unary 33 20033 3 c33 d33 (by decide) (by decide) (Or.inl ⟨rfl, rfl, rfl⟩)
      · have d33 : ¬ y = 33 := fun w => c33 ((lr_eq lr (by decide) (by decide)).mpr w)
        rw [if_neg c40, if_neg c33, if_neg d33]
        by_cases c45 : x = 45
        · have d45 : y = 45 := (lr_eq lr (by decide) (by decide)).mp c45
          rw [if_pos c45, if_pos d45, c45, d45]
          exact unary 45 20126 4 c45 d45 (by decide) (by decide) (Or.inr ⟨by decide, rfl, rfl⟩)
        · have d45 : ¬ y = 45 := fun w => c45 ((lr_eq lr (by decide) (by decide)).mpr w)
          rw [if_neg c45, if_neg d45]
          -- nothing of these
          have nd : ¬ (48 ≤ y.toInt ∧ y.toInt ≤ 57) := fun w => cd ((lr_in lr).mpr w)
          have i48 : fX10_in y 48 57 = some false := by rw [in_eq, l48', l57', decide_eq_false nd]
          have cl : (if 6 ≤ nI o then fX8_readOperand_133 (fX8g (D + 1)) vc else fX8_readOperand_133 (fX8g (D + 1)) vc) = fX8_readOperand_133 (fX8g (D + 1)) vc := by split <;> rfl
          obtain ⟨g1, g2, g3, g4, g5⟩ := fail_both hP (by omega)
          obtain ⟨vm', e1, e2, e3⟩ := badM_add g3 (s := s) (by omega) (x := 1) (by decide) 0
          have fg : fX10_figure vm = some vm' := by
            obtain ⟨F, hF⟩ := FU_s
            unfold fX10_figure
            rw [hF, fX10_figure_4, if_neg (by decide), ly, Option.bind_some, i48, Option.bind_some, if_neg (by decide)]
            unfold fX10_figure_52 fX10_figure_70 fX10_figure_74
            rw [if_pos rfl, g2, Option.bind_some, e1]; rfl
          rw [cl, bind_id, fg]
          unfold fX8_readOperand_133
          rw [q2]
          exact ⟨_, vm', rfl, rfl, Or.inr ⟨p, p, s + 1, g1, e2, by omega, by omega, g4, fm0_tr g5 e3⟩⟩
  · -- a NAME
    have exy : x = y := by
      rcases lr with ⟨w, -, -⟩ | ⟨w1, w2⟩
      · exact w
      · omega
    have hp : p < n := by
      rcases lx with ⟨w, -⟩ | ⟨w1, -, -⟩
      · rw [exy] at w; rw [w, lm1] at y1; omega
      · exact w1
    have nk : ¬ nI k = -1 := by rw [teq, lm1, tnI (by omega)]; omega
    have nk0 : ¬ nI k < 0 := by rw [tlt, l0, tnI (by omega)]; omega
    rw [e, Option.bind_some, Option.bind_some, C58, if_neg nk0, Option.bind_some]
    unfold fX8_readOperand_58
    have ek : (10000 + nI k : Int32) = nI (10000 + k) := by rw [show (10000 : Int32) = nI 10000 from rfl, nI_add]
    rw [if_neg nk, bind_id, ek, q2, nI_1]
    have hsi : stepIs (nI (10000 + k)) 2 (nI k) := Or.inr (Or.inl ⟨k, hk, rfl, rfl, rfl⟩)
    obtain ⟨vc1, vm1, b1, b2, b3, b4, b5, b6⟩ := add_both hP (by omega) (by omega) (a := 2) (by decide) hsi
    obtain ⟨g1, g2, g3⟩ := go_on b3 hp
    have h17 := b3.2.2.2.2.2.1
    rw [b2, Option.bind_some, h17, nI_1]
    have hcc := hP.2.2.2.2.1
    have hca : (j_up vc 3 2 (nI (p + 1))) 9 1 = nI c := by rw [up_o (by decide)]; exact hcc
    have e1 := add_ok hca (show c < 121 by omega) (nI (10000 + k))
    have e2 := add_ok hcc (show c < 121 by omega) (nI (10000 + k))
    have ev : vc1 = j_up (j_up vc 10 c (nI (10000 + k))) 9 1 (nI (c + 1)) := Option.some.inj (b1.symm.trans e2)
    have ef : j_up (j_up (j_up vc 3 2 (nI (p + 1))) 10 c (nI (10000 + k))) 9 1 (nI (c + 1)) = j_up vc1 3 2 (nI (p + 1)) := by
      rw [ev]
      funext a i
      simp only [up_at]
      by_cases w1 : a = 9 ∧ i = 1
      · rw [if_pos w1, if_neg (by omega), if_pos w1]
      · rw [if_neg w1]
        by_cases w2 : a = 10 ∧ i = c
        · rw [if_pos w2, if_neg (by omega), if_neg (by omega), if_pos w2]
        · rw [if_neg w2]
          by_cases w3 : a = 3 ∧ i = 2
          · rw [if_pos w3, if_pos w3]
          · rw [if_neg w3, if_neg w3, if_neg w1, if_neg w2]
    rw [e1, ef]
    refine ⟨_, _, rfl, rfl, Or.inl ⟨p + 1, [nI (10000 + k)], by omega, by simp, fun h => ?_, g1, seg_keep b4 g2 g3 (by simp) (by simp), fc_tr b5 g2 (by omega), fm_tr b6 g3 (by omega)⟩⟩
    show (hst (nI (10000 + k)) h).bind (fun h' => some h') = some (h + 1)
    unfold hst
    rw [if_pos (by rw [tnI (by omega)]; omega)]
    rfl
