def fX10_looksOn  (vi0 : VI) : Option (Int32) := if (vi0 63 16) ≤ (vi0 63 17) then some ((-1)) else if inb (vi0 63 17) 120 = true then some ((vi0 74 (vi0 63 17).toNatClampNeg)) else none
theorem tX10_looksOn {G : GT} {sv : SV} {vi0 : VI} {vl0 : VL} {ns : Nat} {r : Int32} (hW : WF sv ns) (h : fX10_looksOn vi0 = some (r)) : Call G mX10_looksOn 0 0 0 [.ref (G.1 + 63)] sv vi0 vl0 (QI r sv vi0 vl0) := by
  refine j_mk (by decide +kernel) (Nat.le_of_ble_eq_true rfl) (fun Γ B E => ?_)
  show J G Γ 0 0 0 [(0, .ref (G.1 + 63))] [] sv vi0 vl0
  unfold fX10_looksOn at h
  refine j_aload_n B dX10_looksOn_0 rfl 0 rfl ?_
  refine gf_RX10_183 B rfl (wf_65 hW) dX10_looksOn_1 ?_
  refine j_aload_n B dX10_looksOn_4 rfl 0 rfl ?_
  refine gf_RX10_180 B rfl (wf_65 hW) dX10_looksOn_5 ?_
  refine j_icmp_ge (tgt := 23) B dX10_looksOn_8 (by decide) (fun c => ?_) (fun c => ?_)
  · replace h := h_pos c h
    refine j_iconst B dX10_looksOn_23 (v := (-1)) (by decide) ?_
    have e1 := Option.some.inj h
    subst e1
    exact j_iret B E rfl dX10_looksOn_24 (Nat.le_refl _) (Nat.le_refl _) ⟨rfl, rfl, rfl, rfl⟩
  · replace h := h_neg c h
    refine j_aload_n B dX10_looksOn_11 rfl 0 rfl ?_
    refine gf_RX10_42 B rfl (wf_65 hW) (wf_172 hW) dX10_looksOn_12 ?_
    refine j_aload_n B dX10_looksOn_15 rfl 0 rfl ?_
    refine gf_RX10_183 B rfl (wf_65 hW) dX10_looksOn_16 ?_
    obtain ⟨b1, h⟩ := h_inb h
    refine j_bald B ((wf_76 hW)) b1 dX10_looksOn_19 ?_
    refine j_goto (tgt := 24) B dX10_looksOn_20 (by decide) ?_
    have e1 := Option.some.inj h
    subst e1
    exact j_iret B E rfl dX10_looksOn_24 (Nat.le_refl _) (Nat.le_refl _) ⟨rfl, rfl, rfl, rfl⟩
def fX10_wrong  (vi0 : VI) : Option (VI) := if 0 ≤ (vi0 63 18) then some (vi0) else some ((j_up vi0 63 18 (vi0 63 17)))
theorem tX10_wrong {G : GT} {sv : SV} {vi0 : VI} {vl0 : VL} {ns : Nat} {vi' : VI} (hW : WF sv ns) (h : fX10_wrong vi0 = some (vi')) : Call G mX10_wrong 0 0 0 [.ref (G.1 + 63)] sv vi0 vl0 (QV sv vi' vl0) := by
  refine j_mk (by decide +kernel) (Nat.le_of_ble_eq_true rfl) (fun Γ B E => ?_)
  show J G Γ 0 0 0 [(0, .ref (G.1 + 63))] [] sv vi0 vl0
  unfold fX10_wrong at h
  refine j_aload_n B dX10_wrong_0 rfl 0 rfl ?_
  refine gf_RX10_186 B rfl (wf_65 hW) dX10_wrong_1 ?_
  refine j_if_ge (tgt := 15) B dX10_wrong_4 (by decide) (fun c => ?_) (fun c => ?_)
  · replace h := h_pos c h
    have e1 := Option.some.inj h
    subst e1
    exact j_vret B E rfl dX10_wrong_15 (Nat.le_refl _) (Nat.le_refl _) ⟨rfl, rfl, rfl, rfl⟩
  · replace h := h_neg c h
    refine j_aload_n B dX10_wrong_7 rfl 0 rfl ?_
    refine j_aload_n B dX10_wrong_8 rfl 0 rfl ?_
    refine gf_RX10_183 B rfl (wf_65 hW) dX10_wrong_9 ?_
    refine pf_RX10_186 B rfl (wf_65 hW) dX10_wrong_12 ?_
    have e1 := Option.some.inj h
    subst e1
    exact j_vret B E rfl dX10_wrong_15 (Nat.le_refl _) (Nat.le_refl _) ⟨rfl, rfl, rfl, rfl⟩
def fX10_addStep (x1 : Int32) (x2 : Int32) (vi0 : VI) : Option (VI) := if inb (130 + (vi0 63 20)) 260 = true then if inb (130 + ((j_up vi0 75 (130 + (vi0 63 20)).toNatClampNeg (x1.toInt8.toInt32 : Int32).toInt8.toInt32) 63 20)) 260 = true then some ((j_up (j_up (j_up vi0 75 (130 + (vi0 63 20)).toNatClampNeg (x1.toInt8.toInt32 : Int32).toInt8.toInt32) 76 (130 + ((j_up vi0 75 (130 + (vi0 63 20)).toNatClampNeg (x1.toInt8.toInt32 : Int32).toInt8.toInt32) 63 20)).toNatClampNeg x2) 63 20 (((j_up (j_up vi0 75 (130 + (vi0 63 20)).toNatClampNeg (x1.toInt8.toInt32 : Int32).toInt8.toInt32) 76 (130 + ((j_up vi0 75 (130 + (vi0 63 20)).toNatClampNeg (x1.toInt8.toInt32 : Int32).toInt8.toInt32) 63 20)).toNatClampNeg x2) 63 20) + 1))) else none else none
theorem tX10_addStep {G : GT} {sv : SV} {vi0 : VI} {vl0 : VL} {ns : Nat} {x1 : Int32} {x2 : Int32} {vi' : VI} (hW : WF sv ns) (h : fX10_addStep x1 x2 vi0 = some (vi')) : Call G mX10_addStep 0 0 0 [.ref (G.1 + 63), .int x1, .int x2] sv vi0 vl0 (QV sv vi' vl0) := by
  refine j_mk (by decide +kernel) (Nat.le_of_ble_eq_true rfl) (fun Γ B E => ?_)
  show J G Γ 0 0 0 [(0, .ref (G.1 + 63)), (1, .int x1), (2, .int x2)] [] sv vi0 vl0
  unfold fX10_addStep at h
  refine j_aload_n B dX10_addStep_0 rfl 0 rfl ?_
  refine gf_RX10_46 B rfl (wf_65 hW) (wf_173 hW) dX10_addStep_1 ?_
  refine j_sipush B dX10_addStep_4 (v := 130) (by decide) ?_
  refine j_aload_n B dX10_addStep_7 rfl 0 rfl ?_
  refine gf_RX10_189 B rfl (wf_65 hW) dX10_addStep_8 ?_
  refine j_iadd B dX10_addStep_11 ?_
  refine j_iload_n B dX10_addStep_12 rfl 1 rfl ?_
  refine j_i2b B dX10_addStep_13 ?_
  obtain ⟨b1, h⟩ := h_inb h
  refine j_bast B ((wf_77 hW)) b1 dX10_addStep_14 ?_
  refine j_aload_n B dX10_addStep_15 rfl 0 rfl ?_
  refine gf_RX10_49 B rfl (wf_65 hW) (wf_174 hW) dX10_addStep_16 ?_
  refine j_sipush B dX10_addStep_19 (v := 130) (by decide) ?_
  refine j_aload_n B dX10_addStep_22 rfl 0 rfl ?_
  refine gf_RX10_189 B rfl (wf_65 hW) dX10_addStep_23 ?_
  refine j_iadd B dX10_addStep_26 ?_
  refine j_iload_n B dX10_addStep_27 rfl 2 rfl ?_
  obtain ⟨b2, h⟩ := h_inb h
  refine j_iast B ((wf_78 hW)) b2 dX10_addStep_28 ?_
  refine j_aload_n B dX10_addStep_29 rfl 0 rfl ?_
  refine j_dup B dX10_addStep_30 rfl ?_
  refine gf_RX10_189 B rfl (wf_65 hW) dX10_addStep_31 ?_
  refine j_iconst B dX10_addStep_34 (v := 1) (by decide) ?_
  refine j_iadd B dX10_addStep_35 ?_
  refine pf_RX10_189 B rfl (wf_65 hW) dX10_addStep_36 ?_
  have e1 := Option.some.inj h
  subst e1
  exact j_vret B E rfl dX10_addStep_39 (Nat.le_refl _) (Nat.le_refl _) ⟨rfl, rfl, rfl, rfl⟩
def fX10_nameOf (x0 : Int32)  : Option (Int32) := if x0 = 103 then some (2) else if x0 = 104 then some (1) else if x0 = 105 then some ((-1)) else if x0 = 106 then some ((-1)) else if x0 = 107 then some (4) else if x0 = 108 then some ((-1)) else if x0 = 109 then some ((-1)) else if x0 = 110 then some (0) else if x0 = 111 then some ((-1)) else if x0 = 112 then some ((-1)) else if x0 = 113 then some ((-1)) else if x0 = 114 then some ((-1)) else if x0 = 115 then some (3) else if x0 = 116 then some ((-1)) else if x0 = 117 then some ((-1)) else if x0 = 118 then some ((-1)) else if x0 = 119 then some (5) else some ((-1))
theorem tX10_nameOf {G : GT} {sv : SV} {vi0 : VI} {vl0 : VL} {x0 : Int32} {r : Int32} (h : fX10_nameOf x0 = some (r)) : Call G mX10_nameOf 0 0 0 [.int x0] sv vi0 vl0 (QI r sv vi0 vl0) := by
  refine j_mk (by decide +kernel) (Nat.le_of_ble_eq_true rfl) (fun Γ B E => ?_)
  show J G Γ 0 0 0 [(0, .int x0)] [] sv vi0 vl0
  unfold fX10_nameOf at h
  refine j_iload_n B dX10_nameOf_0 rfl 0 rfl ?_
  by_cases c0 : x0 = 103
  · replace h := h_pos c0 h
    refine j_tableIn (off := 87) (tgt := 88) B dX10_nameOf_1 (by rw [c0]; decide) (by rw [c0]; decide) (by rw [c0]; decide) (by decide) ?_
    refine j_iconst B dX10_nameOf_88 (v := 2) (by decide) ?_
    have e1 := Option.some.inj h
    subst e1
    exact j_iret B E rfl dX10_nameOf_89 (Nat.le_refl _) (Nat.le_refl _) ⟨rfl, rfl, rfl, rfl⟩
  replace h := h_neg c0 h
  by_cases c1 : x0 = 104
  · replace h := h_pos c1 h
    refine j_tableIn (off := 85) (tgt := 86) B dX10_nameOf_1 (by rw [c1]; decide) (by rw [c1]; decide) (by rw [c1]; decide) (by decide) ?_
    refine j_iconst B dX10_nameOf_86 (v := 1) (by decide) ?_
    have e1 := Option.some.inj h
    subst e1
    exact j_iret B E rfl dX10_nameOf_87 (Nat.le_refl _) (Nat.le_refl _) ⟨rfl, rfl, rfl, rfl⟩
  replace h := h_neg c1 h
  by_cases c2 : x0 = 105
  · replace h := h_pos c2 h
    refine j_tableIn (off := 95) (tgt := 96) B dX10_nameOf_1 (by rw [c2]; decide) (by rw [c2]; decide) (by rw [c2]; decide) (by decide) ?_
    refine j_iconst B dX10_nameOf_96 (v := (-1)) (by decide) ?_
    have e1 := Option.some.inj h
    subst e1
    exact j_iret B E rfl dX10_nameOf_97 (Nat.le_refl _) (Nat.le_refl _) ⟨rfl, rfl, rfl, rfl⟩
  replace h := h_neg c2 h
  by_cases c3 : x0 = 106
  · replace h := h_pos c3 h
    refine j_tableIn (off := 95) (tgt := 96) B dX10_nameOf_1 (by rw [c3]; decide) (by rw [c3]; decide) (by rw [c3]; decide) (by decide) ?_
    refine j_iconst B dX10_nameOf_96 (v := (-1)) (by decide) ?_
    have e1 := Option.some.inj h
    subst e1
    exact j_iret B E rfl dX10_nameOf_97 (Nat.le_refl _) (Nat.le_refl _) ⟨rfl, rfl, rfl, rfl⟩
  replace h := h_neg c3 h
  by_cases c4 : x0 = 107
  · replace h := h_pos c4 h
    refine j_tableIn (off := 91) (tgt := 92) B dX10_nameOf_1 (by rw [c4]; decide) (by rw [c4]; decide) (by rw [c4]; decide) (by decide) ?_
    refine j_iconst B dX10_nameOf_92 (v := 4) (by decide) ?_
    have e1 := Option.some.inj h
    subst e1
    exact j_iret B E rfl dX10_nameOf_93 (Nat.le_refl _) (Nat.le_refl _) ⟨rfl, rfl, rfl, rfl⟩
  replace h := h_neg c4 h
  by_cases c5 : x0 = 108
  · replace h := h_pos c5 h
    refine j_tableIn (off := 95) (tgt := 96) B dX10_nameOf_1 (by rw [c5]; decide) (by rw [c5]; decide) (by rw [c5]; decide) (by decide) ?_
    refine j_iconst B dX10_nameOf_96 (v := (-1)) (by decide) ?_
    have e1 := Option.some.inj h
    subst e1
    exact j_iret B E rfl dX10_nameOf_97 (Nat.le_refl _) (Nat.le_refl _) ⟨rfl, rfl, rfl, rfl⟩
  replace h := h_neg c5 h
  by_cases c6 : x0 = 109
  · replace h := h_pos c6 h
    refine j_tableIn (off := 95) (tgt := 96) B dX10_nameOf_1 (by rw [c6]; decide) (by rw [c6]; decide) (by rw [c6]; decide) (by decide) ?_
    refine j_iconst B dX10_nameOf_96 (v := (-1)) (by decide) ?_
    have e1 := Option.some.inj h
    subst e1
    exact j_iret B E rfl dX10_nameOf_97 (Nat.le_refl _) (Nat.le_refl _) ⟨rfl, rfl, rfl, rfl⟩
  replace h := h_neg c6 h
  by_cases c7 : x0 = 110
  · replace h := h_pos c7 h
    refine j_tableIn (off := 83) (tgt := 84) B dX10_nameOf_1 (by rw [c7]; decide) (by rw [c7]; decide) (by rw [c7]; decide) (by decide) ?_
    refine j_iconst B dX10_nameOf_84 (v := 0) (by decide) ?_
    have e1 := Option.some.inj h
    subst e1
    exact j_iret B E rfl dX10_nameOf_85 (Nat.le_refl _) (Nat.le_refl _) ⟨rfl, rfl, rfl, rfl⟩
  replace h := h_neg c7 h
  by_cases c8 : x0 = 111
  · replace h := h_pos c8 h
    refine j_tableIn (off := 95) (tgt := 96) B dX10_nameOf_1 (by rw [c8]; decide) (by rw [c8]; decide) (by rw [c8]; decide) (by decide) ?_
    refine j_iconst B dX10_nameOf_96 (v := (-1)) (by decide) ?_
    have e1 := Option.some.inj h
    subst e1
    exact j_iret B E rfl dX10_nameOf_97 (Nat.le_refl _) (Nat.le_refl _) ⟨rfl, rfl, rfl, rfl⟩
  replace h := h_neg c8 h
  by_cases c9 : x0 = 112
  · replace h := h_pos c9 h
    refine j_tableIn (off := 95) (tgt := 96) B dX10_nameOf_1 (by rw [c9]; decide) (by rw [c9]; decide) (by rw [c9]; decide) (by decide) ?_
    refine j_iconst B dX10_nameOf_96 (v := (-1)) (by decide) ?_
    have e1 := Option.some.inj h
    subst e1
    exact j_iret B E rfl dX10_nameOf_97 (Nat.le_refl _) (Nat.le_refl _) ⟨rfl, rfl, rfl, rfl⟩
  replace h := h_neg c9 h
  by_cases c10 : x0 = 113
  · replace h := h_pos c10 h
    refine j_tableIn (off := 95) (tgt := 96) B dX10_nameOf_1 (by rw [c10]; decide) (by rw [c10]; decide) (by rw [c10]; decide) (by decide) ?_
    refine j_iconst B dX10_nameOf_96 (v := (-1)) (by decide) ?_
    have e1 := Option.some.inj h
    subst e1
    exact j_iret B E rfl dX10_nameOf_97 (Nat.le_refl _) (Nat.le_refl _) ⟨rfl, rfl, rfl, rfl⟩
  replace h := h_neg c10 h
  by_cases c11 : x0 = 114
  · replace h := h_pos c11 h
    refine j_tableIn (off := 95) (tgt := 96) B dX10_nameOf_1 (by rw [c11]; decide) (by rw [c11]; decide) (by rw [c11]; decide) (by decide) ?_
    refine j_iconst B dX10_nameOf_96 (v := (-1)) (by decide) ?_
    have e1 := Option.some.inj h
    subst e1
    exact j_iret B E rfl dX10_nameOf_97 (Nat.le_refl _) (Nat.le_refl _) ⟨rfl, rfl, rfl, rfl⟩
  replace h := h_neg c11 h
  by_cases c12 : x0 = 115
  · replace h := h_pos c12 h
    refine j_tableIn (off := 89) (tgt := 90) B dX10_nameOf_1 (by rw [c12]; decide) (by rw [c12]; decide) (by rw [c12]; decide) (by decide) ?_
    refine j_iconst B dX10_nameOf_90 (v := 3) (by decide) ?_
    have e1 := Option.some.inj h
    subst e1
    exact j_iret B E rfl dX10_nameOf_91 (Nat.le_refl _) (Nat.le_refl _) ⟨rfl, rfl, rfl, rfl⟩
  replace h := h_neg c12 h
  by_cases c13 : x0 = 116
  · replace h := h_pos c13 h
    refine j_tableIn (off := 95) (tgt := 96) B dX10_nameOf_1 (by rw [c13]; decide) (by rw [c13]; decide) (by rw [c13]; decide) (by decide) ?_
    refine j_iconst B dX10_nameOf_96 (v := (-1)) (by decide) ?_
    have e1 := Option.some.inj h
    subst e1
    exact j_iret B E rfl dX10_nameOf_97 (Nat.le_refl _) (Nat.le_refl _) ⟨rfl, rfl, rfl, rfl⟩
  replace h := h_neg c13 h
  by_cases c14 : x0 = 117
  · replace h := h_pos c14 h
    refine j_tableIn (off := 95) (tgt := 96) B dX10_nameOf_1 (by rw [c14]; decide) (by rw [c14]; decide) (by rw [c14]; decide) (by decide) ?_
    refine j_iconst B dX10_nameOf_96 (v := (-1)) (by decide) ?_
    have e1 := Option.some.inj h
    subst e1
    exact j_iret B E rfl dX10_nameOf_97 (Nat.le_refl _) (Nat.le_refl _) ⟨rfl, rfl, rfl, rfl⟩
  replace h := h_neg c14 h
  by_cases c15 : x0 = 118
  · replace h := h_pos c15 h
    refine j_tableIn (off := 95) (tgt := 96) B dX10_nameOf_1 (by rw [c15]; decide) (by rw [c15]; decide) (by rw [c15]; decide) (by decide) ?_
    refine j_iconst B dX10_nameOf_96 (v := (-1)) (by decide) ?_
    have e1 := Option.some.inj h
    subst e1
    exact j_iret B E rfl dX10_nameOf_97 (Nat.le_refl _) (Nat.le_refl _) ⟨rfl, rfl, rfl, rfl⟩
  replace h := h_neg c15 h
  by_cases c16 : x0 = 119
  · replace h := h_pos c16 h
    refine j_tableIn (off := 93) (tgt := 94) B dX10_nameOf_1 (by rw [c16]; decide) (by rw [c16]; decide) (by rw [c16]; decide) (by decide) ?_
    refine j_iconst B dX10_nameOf_94 (v := 5) (by decide) ?_
    have e1 := Option.some.inj h
    subst e1
    exact j_iret B E rfl dX10_nameOf_95 (Nat.le_refl _) (Nat.le_refl _) ⟨rfl, rfl, rfl, rfl⟩
  replace h := h_neg c16 h
  refine j_tableOut (tgt := 96) B dX10_nameOf_1 (by have n0 := lv_neT c0 (a := 103) (by decide); have n1 := lv_neT c1 (a := 104) (by decide); have n2 := lv_neT c2 (a := 105) (by decide); have n3 := lv_neT c3 (a := 106) (by decide); have n4 := lv_neT c4 (a := 107) (by decide); have n5 := lv_neT c5 (a := 108) (by decide); have n6 := lv_neT c6 (a := 109) (by decide); have n7 := lv_neT c7 (a := 110) (by decide); have n8 := lv_neT c8 (a := 111) (by decide); have n9 := lv_neT c9 (a := 112) (by decide); have n10 := lv_neT c10 (a := 113) (by decide); have n11 := lv_neT c11 (a := 114) (by decide); have n12 := lv_neT c12 (a := 115) (by decide); have n13 := lv_neT c13 (a := 116) (by decide); have n14 := lv_neT c14 (a := 117) (by decide); have n15 := lv_neT c15 (a := 118) (by decide); have n16 := lv_neT c16 (a := 119) (by decide); omega) (by decide) ?_
  refine j_iconst B dX10_nameOf_96 (v := (-1)) (by decide) ?_
  have e1 := Option.some.inj h
  subst e1
  exact j_iret B E rfl dX10_nameOf_97 (Nat.le_refl _) (Nat.le_refl _) ⟨rfl, rfl, rfl, rfl⟩
def fX10_opens  (vi0 : VI) : Option (Bool × VI) := if (vi0 63 19) = 6 then (fX10_wrong vi0).bind fun r1 => some (false, r1) else some (true, (j_up (j_up vi0 63 19 ((vi0 63 19) + 1)) 63 17 (((j_up vi0 63 19 ((vi0 63 19) + 1)) 63 17) + 1)))
theorem tX10_opens {G : GT} {sv : SV} {vi0 : VI} {vl0 : VL} {ns : Nat} {r : Bool} {vi' : VI} (hW : WF sv ns) (h : fX10_opens vi0 = some (r, vi')) : Call G mX10_opens 1 0 0 [.ref (G.1 + 63)] sv vi0 vl0 (QI (b2i r) sv vi' vl0) := by
  refine j_mk (by decide +kernel) (Nat.le_of_ble_eq_true rfl) (fun Γ B E => ?_)
  show J G Γ 0 0 0 [(0, .ref (G.1 + 63))] [] sv vi0 vl0
  unfold fX10_opens at h
  refine j_aload_n B dX10_opens_0 rfl 0 rfl ?_
  refine gf_RX10_192 B rfl (wf_65 hW) dX10_opens_1 ?_
  refine j_bipush B dX10_opens_4 (v := 6) (by decide) ?_
  refine j_icmp_ne (tgt := 15) B dX10_opens_6 (by decide) (fun c => ?_) (fun c => ?_)
  · replace h := h_neg c h
    refine j_aload_n B dX10_opens_15 rfl 0 rfl ?_
    refine j_dup B dX10_opens_16 rfl ?_
    refine gf_RX10_192 B rfl (wf_65 hW) dX10_opens_17 ?_
    refine j_iconst B dX10_opens_20 (v := 1) (by decide) ?_
    refine j_iadd B dX10_opens_21 ?_
    refine pf_RX10_192 B rfl (wf_65 hW) dX10_opens_22 ?_
    refine j_aload_n B dX10_opens_25 rfl 0 rfl ?_
    refine j_dup B dX10_opens_26 rfl ?_
    refine gf_RX10_183 B rfl (wf_65 hW) dX10_opens_27 ?_
    refine j_iconst B dX10_opens_30 (v := 1) (by decide) ?_
    refine j_iadd B dX10_opens_31 ?_
    refine pf_RX10_183 B rfl (wf_65 hW) dX10_opens_32 ?_
    refine j_iconst B dX10_opens_35 (v := 1) (by decide) ?_
    obtain ⟨e1, e2⟩ := Prod.mk.inj (Option.some.inj h)
    subst e1
    subst e2
    exact j_zret B E rfl (Or.inr rfl) dX10_opens_36 (Nat.le_refl _) (Nat.le_refl _) ⟨rfl, rfl, rfl, rfl⟩
  · replace h := h_pos c h
    refine j_aload_n B dX10_opens_9 rfl 0 rfl ?_
    obtain ⟨r1, hr1, h⟩ := h_bind h
    refine j_cVV (rest := []) B (tX10_wrong hW hr1) cls10 (wf_65 hW) jt_RX10_195 wi_X10_wrong ws_X10_wrong rfl (by decide) (Nat.le_refl _) (Nat.le_refl _) rfl (Nat.le_of_ble_eq_true rfl) dX10_opens_10 ?_
    refine j_iconst B dX10_opens_13 (v := 0) (by decide) ?_
    obtain ⟨e1, e2⟩ := Prod.mk.inj (Option.some.inj h)
    subst e1
    subst e2
    exact j_zret B E rfl (Or.inl rfl) dX10_opens_14 (Nat.le_refl _) (Nat.le_refl _) ⟨rfl, rfl, rfl, rfl⟩
def fX10_figure_74  (x1 : Int32) (vi : VI) : Option (VI) := (fX10_addStep 1 x1 vi).bind fun r2 => some (r2)
theorem tX10_figure_74 {G : GT} {sv : SV} {vl0 : VL} {ns : Nat} {Γ : CT} {vi' : VI} (B : Base G Γ mX10_figure 1 0 0) (E : Ends G Γ 0 0 (QV sv vi' vl0)) (hW : WF sv ns) : ∀ (x1 : Int32) (vi : VI), fX10_figure_74  x1 vi = some (vi') → J G Γ 0 0 74 [(0, .ref (G.1 + 63)), (1, .int x1)] [] sv vi vl0 := by
  intro x1 vi  h
  unfold fX10_figure_74 at h
  refine j_aload_n B dX10_figure_74 rfl 0 rfl ?_
  refine j_iconst B dX10_figure_75 (v := 1) (by decide) ?_
  refine j_iload_n B dX10_figure_76 rfl 1 rfl ?_
  obtain ⟨r2, hr2, h⟩ := h_bind h
  refine j_cVV (rest := []) B (tX10_addStep hW hr2) cls10 (wf_65 hW) jt_RX10_201 wi_X10_addStep ws_X10_addStep rfl (by decide) (Nat.le_refl _) (Nat.le_refl _) rfl (Nat.le_of_ble_eq_true rfl) dX10_figure_77 ?_
  have e1 := Option.some.inj h
  subst e1
  exact j_vret B E rfl dX10_figure_80 (Nat.le_refl _) (Nat.le_refl _) ⟨rfl, rfl, rfl, rfl⟩
def fX10_figure_70  (x1 : Int32) (vi : VI) : Option (VI) := (fX10_wrong vi).bind fun r1 => fX10_figure_74  x1 r1
theorem tX10_figure_70 {G : GT} {sv : SV} {vl0 : VL} {ns : Nat} {Γ : CT} {vi' : VI} (B : Base G Γ mX10_figure 1 0 0) (E : Ends G Γ 0 0 (QV sv vi' vl0)) (hW : WF sv ns) : ∀ (x1 : Int32) (vi : VI), fX10_figure_70  x1 vi = some (vi') → J G Γ 0 0 70 [(0, .ref (G.1 + 63)), (1, .int x1)] [] sv vi vl0 := by
  intro x1 vi  h
  unfold fX10_figure_70 at h
  refine j_aload_n B dX10_figure_70 rfl 0 rfl ?_
  obtain ⟨r1, hr1, h⟩ := h_bind h
  refine j_cVV (rest := []) B (tX10_wrong hW hr1) cls10 (wf_65 hW) jt_RX10_195 wi_X10_wrong ws_X10_wrong rfl (by decide) (Nat.le_refl _) (Nat.le_refl _) rfl (Nat.le_of_ble_eq_true rfl) dX10_figure_71 ?_
  refine j_locals [0, 1] rfl ?_
  exact tX10_figure_74 B E hW (x1) (r1)  h
def fX10_figure_52  (x1 : Int32) (x2 : Int32) (vi : VI) : Option (VI) := if x2 = 0 then fX10_figure_70  x1 vi else (fX10_looksOn vi).bind fun r3 => (fX10_in r3 48 57).bind fun r4 => if r4 = true then fX10_figure_70  x1 vi else fX10_figure_74  x1 vi
theorem tX10_figure_52 {G : GT} {sv : SV} {vl0 : VL} {ns : Nat} {Γ : CT} {vi' : VI} (B : Base G Γ mX10_figure 1 0 0) (E : Ends G Γ 0 0 (QV sv vi' vl0)) (hW : WF sv ns) : ∀ (x1 : Int32) (x2 : Int32) (vi : VI), fX10_figure_52  x1 x2 vi = some (vi') → J G Γ 0 0 52 [(0, .ref (G.1 + 63)), (1, .int x1), (2, .int x2)] [] sv vi vl0 := by
  intro x1 x2 vi  h
  unfold fX10_figure_52 at h
  refine j_iload_n B dX10_figure_52 rfl 2 rfl ?_
  refine j_if_eq (tgt := 70) B dX10_figure_53 (by decide) (fun c => ?_) (fun c => ?_)
  · replace h := h_pos c h
    refine j_locals [0, 1] rfl ?_
    exact tX10_figure_70 B E hW (x1) (vi)  h
  · replace h := h_neg c h
    refine j_aload_n B dX10_figure_56 rfl 0 rfl ?_
    obtain ⟨r3, hr3, h⟩ := h_bind h
    refine j_cVI (rest := []) B (tX10_looksOn hW hr3) cls10 (wf_65 hW) jt_RX10_198 wi_X10_looksOn ws_X10_looksOn rfl (by decide) (Nat.le_refl _) (Nat.le_refl _) rfl (Nat.le_of_ble_eq_true rfl) dX10_figure_57 ?_
    refine j_bipush B dX10_figure_60 (v := 48) (by decide) ?_
    refine j_bipush B dX10_figure_62 (v := 57) (by decide) ?_
    obtain ⟨r4, hr4, h⟩ := h_bind h
    refine j_cSI (rest := []) B (tX10_in hr4) jt_RX10_124 wst_X10_in rfl (by decide) (Nat.le_refl _) (Nat.le_refl _) rfl (Nat.le_of_ble_eq_true rfl) dX10_figure_64 ?_
    refine j_if_eq (tgt := 74) B dX10_figure_67 (by decide) (fun c => ?_) (fun c => ?_)
    · replace h := h_neg (b2i_0 c) h
      refine j_locals [0, 1] rfl ?_
      exact tX10_figure_74 B E hW (x1) (vi)  h
    · replace h := h_pos (b2i_1 c) h
      refine j_locals [0, 1] rfl ?_
      exact tX10_figure_70 B E hW (x1) (vi)  h
def fX10_figure_4  : Nat → Int32 → Int32 → VI → Option (VI)
  | 0, _, _, _ => none
  | F + 1, x1, x2, vi => if 4 ≤ x2 then fX10_figure_52  x1 x2 vi else (fX10_looksOn vi).bind fun r5 => (fX10_in r5 48 57).bind fun r6 => if r6 = true then (fX10_looksOn vi).bind fun r7 => fX10_figure_4  F (((10 * x1) + r7) - 48) (x2 + 1) (j_up vi 63 17 ((vi 63 17) + 1)) else fX10_figure_52  x1 x2 vi
theorem tX10_figure_4 {G : GT} {sv : SV} {vl0 : VL} {ns : Nat} {Γ : CT} {vi' : VI} (B : Base G Γ mX10_figure 1 0 0) (E : Ends G Γ 0 0 (QV sv vi' vl0)) (hW : WF sv ns) : ∀ (F : Nat) (x1 : Int32) (x2 : Int32) (vi : VI), fX10_figure_4  F x1 x2 vi = some (vi') → J G Γ 0 0 4 [(0, .ref (G.1 + 63)), (1, .int x1), (2, .int x2)] [] sv vi vl0 := by
  intro F
  induction F with
  | zero =>
    intro x1 x2 vi  h
    cases (show (none : Option (VI)) = some (vi') from h)
  | succ F ih =>
    intro x1 x2 vi  h
    rw [fX10_figure_4] at h
    refine j_iload_n B dX10_figure_4 rfl 2 rfl ?_
    refine j_iconst B dX10_figure_5 (v := 4) (by decide) ?_
    refine j_icmp_ge (tgt := 52) B dX10_figure_6 (by decide) (fun c => ?_) (fun c => ?_)
    · replace h := h_pos c h
      refine j_locals [0, 1, 2] rfl ?_
      exact tX10_figure_52 B E hW (x1) (x2) (vi)  h
    · replace h := h_neg c h
      refine j_aload_n B dX10_figure_9 rfl 0 rfl ?_
      obtain ⟨r5, hr5, h⟩ := h_bind h
      refine j_cVI (rest := []) B (tX10_looksOn hW hr5) cls10 (wf_65 hW) jt_RX10_198 wi_X10_looksOn ws_X10_looksOn rfl (by decide) (Nat.le_refl _) (Nat.le_refl _) rfl (Nat.le_of_ble_eq_true rfl) dX10_figure_10 ?_
      refine j_bipush B dX10_figure_13 (v := 48) (by decide) ?_
      refine j_bipush B dX10_figure_15 (v := 57) (by decide) ?_
      obtain ⟨r6, hr6, h⟩ := h_bind h
      refine j_cSI (rest := []) B (tX10_in hr6) jt_RX10_124 wst_X10_in rfl (by decide) (Nat.le_refl _) (Nat.le_refl _) rfl (Nat.le_of_ble_eq_true rfl) dX10_figure_17 ?_
      refine j_if_eq (tgt := 52) B dX10_figure_20 (by decide) (fun c => ?_) (fun c => ?_)
      · replace h := h_neg (b2i_0 c) h
        refine j_locals [0, 1, 2] rfl ?_
        exact tX10_figure_52 B E hW (x1) (x2) (vi)  h
      · replace h := h_pos (b2i_1 c) h
        refine j_bipush B dX10_figure_23 (v := 10) (by decide) ?_
        refine j_iload_n B dX10_figure_25 rfl 1 rfl ?_
        refine j_imul B dX10_figure_26 ?_
        refine j_aload_n B dX10_figure_27 rfl 0 rfl ?_
        obtain ⟨r7, hr7, h⟩ := h_bind h
        refine j_cVI (rest := [.int (10 * x1)]) B (tX10_looksOn hW hr7) cls10 (wf_65 hW) jt_RX10_198 wi_X10_looksOn ws_X10_looksOn rfl (by decide) (Nat.le_refl _) (Nat.le_refl _) rfl (Nat.le_of_ble_eq_true rfl) dX10_figure_28 ?_
        refine j_iadd B dX10_figure_31 ?_
        refine j_bipush B dX10_figure_32 (v := 48) (by decide) ?_
        refine j_isub B dX10_figure_34 ?_
        refine j_istore_n (L' := [(1, .int (((10 * x1) + r7) - 48)), (0, .ref (G.1 + 63)), (2, .int x2)]) B dX10_figure_35 rfl (by decide) rfl ?_
        refine j_iinc (v := (x2 + 1)) (L' := [(2, .int (x2 + 1)), (1, .int (((10 * x1) + r7) - 48)), (0, .ref (G.1 + 63))]) B dX10_figure_36 2 rfl rfl (by decide) rfl ?_
        refine j_aload_n B dX10_figure_39 rfl 2 rfl ?_
        refine j_dup B dX10_figure_40 rfl ?_
        refine gf_RX10_183 B rfl (wf_65 hW) dX10_figure_41 ?_
        refine j_iconst B dX10_figure_44 (v := 1) (by decide) ?_
        refine j_iadd B dX10_figure_45 ?_
        refine pf_RX10_183 B rfl (wf_65 hW) dX10_figure_46 ?_
        refine j_goto (tgt := 4) B dX10_figure_49 (by decide) ?_
        refine j_locals [2, 1, 0] rfl ?_
        exact ih ((((10 * x1) + r7) - 48)) ((x2 + 1)) ((j_up vi 63 17 ((vi 63 17) + 1)))  h
def fX10_figure  (vi0 : VI) : Option (VI) := fX10_figure_4  FU 0 0 vi0
theorem tX10_figure {G : GT} {sv : SV} {vi0 : VI} {vl0 : VL} {ns : Nat} {vi' : VI} (hW : WF sv ns) (h : fX10_figure vi0 = some (vi')) : Call G mX10_figure 1 0 0 [.ref (G.1 + 63)] sv vi0 vl0 (QV sv vi' vl0) := by
  refine j_mk (by decide +kernel) (Nat.le_of_ble_eq_true rfl) (fun Γ B E => ?_)
  show J G Γ 0 0 0 [(0, .ref (G.1 + 63))] [] sv vi0 vl0
  unfold fX10_figure at h
  refine j_iconst B dX10_figure_0 (v := 0) (by decide) ?_
  refine j_istore_n (L' := [(1, .int 0), (0, .ref (G.1 + 63))]) B dX10_figure_1 rfl (by decide) rfl ?_
  refine j_iconst B dX10_figure_2 (v := 0) (by decide) ?_
  refine j_istore_n (L' := [(2, .int 0), (1, .int 0), (0, .ref (G.1 + 63))]) B dX10_figure_3 rfl (by decide) rfl ?_
  refine j_locals [2, 1, 0] rfl ?_
  exact tX10_figure_4 B E hW FU (0) (0) (vi0)  h
def fX10_operand_80 (rec : Nat → VI → Option VI) (s1 : Int32) (vi : VI) : Option (VI) := (fX10_addStep s1 0 vi).bind fun r5 => some (r5)
theorem tX10_operand_80 {G : GT} {sv : SV} {vl0 : VL} {ns : Nat} {D : Nat} {rec : Nat → VI → Option VI} {Γ : CT} {vi' : VI} (B : Base G Γ mX10_operand (D + 1) 0 0) (E : Ends G Γ 0 0 (QV sv vi' vl0)) (hW : WF sv ns) (hR : (∀ {vi vi' : VI}, rec 0  vi = some vi' → Call G mX10_operand D 0 0 [.ref (G.1 + 63)] sv vi vl0 (QV sv vi' vl0)) ∧ (∀ {vi vi' : VI}, rec 1  vi = some vi' → Call G mX10_product D 0 0 [.ref (G.1 + 63)] sv vi vl0 (QV sv vi' vl0)) ∧ (∀ {vi vi' : VI}, rec 2  vi = some vi' → Call G mX10_sum D 0 0 [.ref (G.1 + 63)] sv vi vl0 (QV sv vi' vl0)) ∧ (∀ {vi vi' : VI}, rec 3  vi = some vi' → Call G mX10_compared D 0 0 [.ref (G.1 + 63)] sv vi vl0 (QV sv vi' vl0)) ∧ (∀ {vi vi' : VI}, rec 4  vi = some vi' → Call G mX10_both D 0 0 [.ref (G.1 + 63)] sv vi vl0 (QV sv vi' vl0)) ∧ (∀ {vi vi' : VI}, rec 5  vi = some vi' → Call G mX10_either D 0 0 [.ref (G.1 + 63)] sv vi vl0 (QV sv vi' vl0))) (hD : 2 ≤ D) : ∀ (s1 : Int32) (vi : VI), fX10_operand_80 rec s1 vi = some (vi') → J G Γ 0 0 80 [] [.int s1, .ref (G.1 + 63)] sv vi vl0 := by
  intro s1 vi  h
  unfold fX10_operand_80 at h
  refine j_iconst B dX10_operand_80 (v := 0) (by decide) ?_
  obtain ⟨r5, hr5, h⟩ := h_bind h
  refine j_cVV (rest := []) B (tX10_addStep hW hr5) cls10 (wf_65 hW) jt_RX10_201 wi_X10_addStep ws_X10_addStep rfl (by omega) (Nat.le_refl _) (Nat.le_refl _) rfl (Nat.le_of_ble_eq_true rfl) dX10_operand_81 ?_
  refine j_goto (tgt := 154) B dX10_operand_84 (by decide) ?_
  have e1 := Option.some.inj h
  subst e1
  exact j_vret B E rfl dX10_operand_154 (Nat.le_refl _) (Nat.le_refl _) ⟨rfl, rfl, rfl, rfl⟩
def fX10_operand_46 (rec : Nat → VI → Option VI) (x1 : Int32) (vi : VI) : Option (VI) := (fX10_opens vi).bind fun r3 => if r3.1 = true then (rec 0  r3.2).bind fun r4 => if x1 = 33 then fX10_operand_80 rec 3 (j_up r4 63 19 ((r4 63 19) - 1)) else fX10_operand_80 rec 4 (j_up r4 63 19 ((r4 63 19) - 1)) else some (r3.2)
theorem tX10_operand_46 {G : GT} {sv : SV} {vl0 : VL} {ns : Nat} {D : Nat} {rec : Nat → VI → Option VI} {Γ : CT} {vi' : VI} (B : Base G Γ mX10_operand (D + 1) 0 0) (E : Ends G Γ 0 0 (QV sv vi' vl0)) (hW : WF sv ns) (hR : (∀ {vi vi' : VI}, rec 0  vi = some vi' → Call G mX10_operand D 0 0 [.ref (G.1 + 63)] sv vi vl0 (QV sv vi' vl0)) ∧ (∀ {vi vi' : VI}, rec 1  vi = some vi' → Call G mX10_product D 0 0 [.ref (G.1 + 63)] sv vi vl0 (QV sv vi' vl0)) ∧ (∀ {vi vi' : VI}, rec 2  vi = some vi' → Call G mX10_sum D 0 0 [.ref (G.1 + 63)] sv vi vl0 (QV sv vi' vl0)) ∧ (∀ {vi vi' : VI}, rec 3  vi = some vi' → Call G mX10_compared D 0 0 [.ref (G.1 + 63)] sv vi vl0 (QV sv vi' vl0)) ∧ (∀ {vi vi' : VI}, rec 4  vi = some vi' → Call G mX10_both D 0 0 [.ref (G.1 + 63)] sv vi vl0 (QV sv vi' vl0)) ∧ (∀ {vi vi' : VI}, rec 5  vi = some vi' → Call G mX10_either D 0 0 [.ref (G.1 + 63)] sv vi vl0 (QV sv vi' vl0))) (hD : 2 ≤ D) : ∀ (x1 : Int32) (vi : VI), fX10_operand_46 rec x1 vi = some (vi') → J G Γ 0 0 46 [(0, .ref (G.1 + 63)), (1, .int x1)] [] sv vi vl0 := by
  intro x1 vi  h
  unfold fX10_operand_46 at h
  refine j_aload_n B dX10_operand_46 rfl 0 rfl ?_
  obtain ⟨r3, hr3, h⟩ := h_bind h
  refine j_cVI (rest := []) B (tX10_opens hW hr3) cls10 (wf_65 hW) jt_RX10_209 wi_X10_opens ws_X10_opens rfl (by omega) (Nat.le_refl _) (Nat.le_refl _) rfl (Nat.le_of_ble_eq_true rfl) dX10_operand_47 ?_
  refine j_if_ne (tgt := 54) B dX10_operand_50 (by decide) (fun c => ?_) (fun c => ?_)
  · replace h := h_pos (b2i_1 c) h
    refine j_aload_n B dX10_operand_54 rfl 0 rfl ?_
    obtain ⟨r4, hr4, h⟩ := h_bind h
    refine j_cVV (rest := []) B (hR.1  hr4) cls10 (wf_65 hW) jt_RX10_213 wi_X10_operand ws_X10_operand rfl (by omega) (Nat.le_refl _) (Nat.le_refl _) rfl (Nat.le_of_ble_eq_true rfl) dX10_operand_55 ?_
    refine j_aload_n B dX10_operand_58 rfl 0 rfl ?_
    refine j_dup B dX10_operand_59 rfl ?_
    refine gf_RX10_192 B rfl (wf_65 hW) dX10_operand_60 ?_
    refine j_iconst B dX10_operand_63 (v := 1) (by decide) ?_
    refine j_isub B dX10_operand_64 ?_
    refine pf_RX10_192 B rfl (wf_65 hW) dX10_operand_65 ?_
    refine j_aload_n B dX10_operand_68 rfl 0 rfl ?_
    refine j_iload_n B dX10_operand_69 rfl 1 rfl ?_
    refine j_bipush B dX10_operand_70 (v := 33) (by decide) ?_
    refine j_icmp_ne (tgt := 79) B dX10_operand_72 (by decide) (fun c => ?_) (fun c => ?_)
    · replace h := h_neg c h
      refine j_iconst B dX10_operand_79 (v := 4) (by decide) ?_
      refine j_locals [] rfl ?_
      exact tX10_operand_80 B E hW hR hD (4) ((j_up r4 63 19 ((r4 63 19) - 1)))  h
    · replace h := h_pos c h
      refine j_iconst B dX10_operand_75 (v := 3) (by decide) ?_
      refine j_goto (tgt := 80) B dX10_operand_76 (by decide) ?_
      refine j_locals [] rfl ?_
      exact tX10_operand_80 B E hW hR hD (3) ((j_up r4 63 19 ((r4 63 19) - 1)))  h
  · replace h := h_neg (b2i_0 c) h
    have e1 := Option.some.inj h
    subst e1
    exact j_vret B E rfl dX10_operand_53 (Nat.le_refl _) (Nat.le_refl _) ⟨rfl, rfl, rfl, rfl⟩
def fX10_operand (rec : Nat → VI → Option VI) (vi0 : VI) : Option (VI) := (fX10_looksOn vi0).bind fun r1 => (fX10_nameOf r1).bind fun r2 => if r2 < 0 then if r1 = 33 then fX10_operand_46 rec r1 vi0 else if r1 = 45 then fX10_operand_46 rec r1 vi0 else if r1 = 40 then (fX10_opens vi0).bind fun r7 => if r7.1 = true then (rec 5  r7.2).bind fun r8 => if (r8 63 18) < 0 then (fX10_looksOn r8).bind fun r9 => if r9 = 41 then some ((j_up (j_up r8 63 17 ((r8 63 17) + 1)) 63 19 (((j_up r8 63 17 ((r8 63 17) + 1)) 63 19) - 1))) else (fX10_wrong r8).bind fun r10 => some (r10) else some (r8) else some (r7.2) else (fX10_figure vi0).bind fun r6 => some (r6) else (fX10_nameOf r1).bind fun r11 => (fX10_addStep 2 r11 vi0).bind fun r12 => some ((j_up r12 63 17 ((r12 63 17) + 1)))
theorem tX10_operand {G : GT} {sv : SV} {vi0 : VI} {vl0 : VL} {ns : Nat} {D : Nat} {rec : Nat → VI → Option VI} {vi' : VI} (hW : WF sv ns) (hR : (∀ {vi vi' : VI}, rec 0  vi = some vi' → Call G mX10_operand D 0 0 [.ref (G.1 + 63)] sv vi vl0 (QV sv vi' vl0)) ∧ (∀ {vi vi' : VI}, rec 1  vi = some vi' → Call G mX10_product D 0 0 [.ref (G.1 + 63)] sv vi vl0 (QV sv vi' vl0)) ∧ (∀ {vi vi' : VI}, rec 2  vi = some vi' → Call G mX10_sum D 0 0 [.ref (G.1 + 63)] sv vi vl0 (QV sv vi' vl0)) ∧ (∀ {vi vi' : VI}, rec 3  vi = some vi' → Call G mX10_compared D 0 0 [.ref (G.1 + 63)] sv vi vl0 (QV sv vi' vl0)) ∧ (∀ {vi vi' : VI}, rec 4  vi = some vi' → Call G mX10_both D 0 0 [.ref (G.1 + 63)] sv vi vl0 (QV sv vi' vl0)) ∧ (∀ {vi vi' : VI}, rec 5  vi = some vi' → Call G mX10_either D 0 0 [.ref (G.1 + 63)] sv vi vl0 (QV sv vi' vl0))) (hD : 2 ≤ D) (h : fX10_operand rec vi0 = some (vi')) : Call G mX10_operand (D + 1) 0 0 [.ref (G.1 + 63)] sv vi0 vl0 (QV sv vi' vl0) := by
  refine j_mk (by decide +kernel) (Nat.le_of_ble_eq_true rfl) (fun Γ B E => ?_)
  show J G Γ 0 0 0 [(0, .ref (G.1 + 63))] [] sv vi0 vl0
  unfold fX10_operand at h
  refine j_aload_n B dX10_operand_0 rfl 0 rfl ?_
  obtain ⟨r1, hr1, h⟩ := h_bind h
  refine j_cVI (rest := []) B (tX10_looksOn hW hr1) cls10 (wf_65 hW) jt_RX10_198 wi_X10_looksOn ws_X10_looksOn rfl (by omega) (Nat.le_refl _) (Nat.le_refl _) rfl (Nat.le_of_ble_eq_true rfl) dX10_operand_1 ?_
  refine j_istore_n (L' := [(1, .int r1), (0, .ref (G.1 + 63))]) B dX10_operand_4 rfl (by decide) rfl ?_
  refine j_iload_n B dX10_operand_5 rfl 0 rfl ?_
  obtain ⟨r2, hr2, h⟩ := h_bind h
  refine j_cSI (rest := []) B (tX10_nameOf hr2) jt_RX10_205 wst_X10_nameOf rfl (by omega) (Nat.le_refl _) (Nat.le_refl _) rfl (Nat.le_of_ble_eq_true rfl) dX10_operand_6 ?_
  refine j_if_lt (tgt := 34) B dX10_operand_9 (by decide) (fun c => ?_) (fun c => ?_)
  · replace h := h_pos c h
    refine j_iload_n B dX10_operand_34 rfl 0 rfl ?_
    refine j_bipush B dX10_operand_35 (v := 33) (by decide) ?_
    refine j_icmp_eq (tgt := 46) B dX10_operand_37 (by decide) (fun c => ?_) (fun c => ?_)
    · replace h := h_pos c h
      refine j_locals [1, 0] rfl ?_
      exact tX10_operand_46 B E hW hR hD (r1) (vi0)  h
    · replace h := h_neg c h
      refine j_iload_n B dX10_operand_40 rfl 0 rfl ?_
      refine j_bipush B dX10_operand_41 (v := 45) (by decide) ?_
      refine j_icmp_ne (tgt := 87) B dX10_operand_43 (by decide) (fun c => ?_) (fun c => ?_)
      · replace h := h_neg c h
        refine j_iload_n B dX10_operand_87 rfl 0 rfl ?_
        refine j_bipush B dX10_operand_88 (v := 40) (by decide) ?_
        refine j_icmp_ne (tgt := 150) B dX10_operand_90 (by decide) (fun c => ?_) (fun c => ?_)
        · replace h := h_neg c h
          refine j_aload_n B dX10_operand_150 rfl 1 rfl ?_
          obtain ⟨r6, hr6, h⟩ := h_bind h
          refine j_cVV (rest := []) B (tX10_figure hW hr6) cls10 (wf_65 hW) jt_RX10_219 wi_X10_figure ws_X10_figure rfl (by omega) (Nat.le_refl _) (Nat.le_refl _) rfl (Nat.le_of_ble_eq_true rfl) dX10_operand_151 ?_
          have e1 := Option.some.inj h
          subst e1
          exact j_vret B E rfl dX10_operand_154 (Nat.le_refl _) (Nat.le_refl _) ⟨rfl, rfl, rfl, rfl⟩
        · replace h := h_pos c h
          refine j_aload_n B dX10_operand_93 rfl 1 rfl ?_
          obtain ⟨r7, hr7, h⟩ := h_bind h
          refine j_cVI (rest := []) B (tX10_opens hW hr7) cls10 (wf_65 hW) jt_RX10_209 wi_X10_opens ws_X10_opens rfl (by omega) (Nat.le_refl _) (Nat.le_refl _) rfl (Nat.le_of_ble_eq_true rfl) dX10_operand_94 ?_
          refine j_if_ne (tgt := 101) B dX10_operand_97 (by decide) (fun c => ?_) (fun c => ?_)
          · replace h := h_pos (b2i_1 c) h
            refine j_aload_n B dX10_operand_101 rfl 1 rfl ?_
            obtain ⟨r8, hr8, h⟩ := h_bind h
            refine j_cVV (rest := []) B (hR.2.2.2.2.2  hr8) cls10 (wf_65 hW) jt_RX10_216 wi_X10_either ws_X10_either rfl (by omega) (Nat.le_refl _) (Nat.le_refl _) rfl (Nat.le_of_ble_eq_true rfl) dX10_operand_102 ?_
            refine j_aload_n B dX10_operand_105 rfl 1 rfl ?_
            refine gf_RX10_186 B rfl (wf_65 hW) dX10_operand_106 ?_
            refine j_if_lt (tgt := 113) B dX10_operand_109 (by decide) (fun c => ?_) (fun c => ?_)
            · replace h := h_pos c h
              refine j_aload_n B dX10_operand_113 rfl 1 rfl ?_
              obtain ⟨r9, hr9, h⟩ := h_bind h
              refine j_cVI (rest := []) B (tX10_looksOn hW hr9) cls10 (wf_65 hW) jt_RX10_198 wi_X10_looksOn ws_X10_looksOn rfl (by omega) (Nat.le_refl _) (Nat.le_refl _) rfl (Nat.le_of_ble_eq_true rfl) dX10_operand_114 ?_
              refine j_bipush B dX10_operand_117 (v := 41) (by decide) ?_
              refine j_icmp_eq (tgt := 127) B dX10_operand_119 (by decide) (fun c => ?_) (fun c => ?_)
              · replace h := h_pos c h
                refine j_aload_n B dX10_operand_127 rfl 1 rfl ?_
                refine j_dup B dX10_operand_128 rfl ?_
                refine gf_RX10_183 B rfl (wf_65 hW) dX10_operand_129 ?_
                refine j_iconst B dX10_operand_132 (v := 1) (by decide) ?_
                refine j_iadd B dX10_operand_133 ?_
                refine pf_RX10_183 B rfl (wf_65 hW) dX10_operand_134 ?_
                refine j_aload_n B dX10_operand_137 rfl 1 rfl ?_
                refine j_dup B dX10_operand_138 rfl ?_
                refine gf_RX10_192 B rfl (wf_65 hW) dX10_operand_139 ?_
                refine j_iconst B dX10_operand_142 (v := 1) (by decide) ?_
                refine j_isub B dX10_operand_143 ?_
                refine pf_RX10_192 B rfl (wf_65 hW) dX10_operand_144 ?_
                refine j_goto (tgt := 154) B dX10_operand_147 (by decide) ?_
                have e1 := Option.some.inj h
                subst e1
                exact j_vret B E rfl dX10_operand_154 (Nat.le_refl _) (Nat.le_refl _) ⟨rfl, rfl, rfl, rfl⟩
              · replace h := h_neg c h
                refine j_aload_n B dX10_operand_122 rfl 1 rfl ?_
                obtain ⟨r10, hr10, h⟩ := h_bind h
                refine j_cVV (rest := []) B (tX10_wrong hW hr10) cls10 (wf_65 hW) jt_RX10_195 wi_X10_wrong ws_X10_wrong rfl (by omega) (Nat.le_refl _) (Nat.le_refl _) rfl (Nat.le_of_ble_eq_true rfl) dX10_operand_123 ?_
                have e1 := Option.some.inj h
                subst e1
                exact j_vret B E rfl dX10_operand_126 (Nat.le_refl _) (Nat.le_refl _) ⟨rfl, rfl, rfl, rfl⟩
            · replace h := h_neg c h
              have e1 := Option.some.inj h
              subst e1
              exact j_vret B E rfl dX10_operand_112 (Nat.le_refl _) (Nat.le_refl _) ⟨rfl, rfl, rfl, rfl⟩
          · replace h := h_neg (b2i_0 c) h
            have e1 := Option.some.inj h
            subst e1
            exact j_vret B E rfl dX10_operand_100 (Nat.le_refl _) (Nat.le_refl _) ⟨rfl, rfl, rfl, rfl⟩
      · replace h := h_pos c h
        refine j_locals [1, 0] rfl ?_
        exact tX10_operand_46 B E hW hR hD (r1) (vi0)  h
  · replace h := h_neg c h
    refine j_aload_n B dX10_operand_12 rfl 1 rfl ?_
    refine j_iconst B dX10_operand_13 (v := 2) (by decide) ?_
    refine j_iload_n B dX10_operand_14 rfl 0 rfl ?_
    obtain ⟨r11, hr11, h⟩ := h_bind h
    refine j_cSI (rest := [.int 2, .ref (G.1 + 63)]) B (tX10_nameOf hr11) jt_RX10_205 wst_X10_nameOf rfl (by omega) (Nat.le_refl _) (Nat.le_refl _) rfl (Nat.le_of_ble_eq_true rfl) dX10_operand_15 ?_
    obtain ⟨r12, hr12, h⟩ := h_bind h
    refine j_cVV (rest := []) B (tX10_addStep hW hr12) cls10 (wf_65 hW) jt_RX10_201 wi_X10_addStep ws_X10_addStep rfl (by omega) (Nat.le_refl _) (Nat.le_refl _) rfl (Nat.le_of_ble_eq_true rfl) dX10_operand_18 ?_
    refine j_aload_n B dX10_operand_21 rfl 1 rfl ?_
    refine j_dup B dX10_operand_22 rfl ?_
    refine gf_RX10_183 B rfl (wf_65 hW) dX10_operand_23 ?_
    refine j_iconst B dX10_operand_26 (v := 1) (by decide) ?_
    refine j_iadd B dX10_operand_27 ?_
    refine pf_RX10_183 B rfl (wf_65 hW) dX10_operand_28 ?_
    refine j_goto (tgt := 154) B dX10_operand_31 (by decide) ?_
    have e1 := Option.some.inj h
    subst e1
    exact j_vret B E rfl dX10_operand_154 (Nat.le_refl _) (Nat.le_refl _) ⟨rfl, rfl, rfl, rfl⟩
def fX10_product_38 (rec : Nat → VI → Option VI) (k4 : VI → Option (VI)) (vi : VI) : Option (VI) := (fX10_looksOn vi).bind fun r3 => (rec 0  (j_up vi 63 17 ((vi 63 17) + 1))).bind fun r4 => (fX10_addStep r3 0 r4).bind fun r5 => k4 r5
theorem tX10_product_38 {G : GT} {sv : SV} {vl0 : VL} {ns : Nat} {D : Nat} {rec : Nat → VI → Option VI} {Γ : CT} {vi' : VI} {k4 : VI → Option (VI)} (B : Base G Γ mX10_product (D + 1) 0 0) (E : Ends G Γ 0 0 (QV sv vi' vl0)) (hW : WF sv ns) (hR : (∀ {vi vi' : VI}, rec 0  vi = some vi' → Call G mX10_operand D 0 0 [.ref (G.1 + 63)] sv vi vl0 (QV sv vi' vl0)) ∧ (∀ {vi vi' : VI}, rec 1  vi = some vi' → Call G mX10_product D 0 0 [.ref (G.1 + 63)] sv vi vl0 (QV sv vi' vl0)) ∧ (∀ {vi vi' : VI}, rec 2  vi = some vi' → Call G mX10_sum D 0 0 [.ref (G.1 + 63)] sv vi vl0 (QV sv vi' vl0)) ∧ (∀ {vi vi' : VI}, rec 3  vi = some vi' → Call G mX10_compared D 0 0 [.ref (G.1 + 63)] sv vi vl0 (QV sv vi' vl0)) ∧ (∀ {vi vi' : VI}, rec 4  vi = some vi' → Call G mX10_both D 0 0 [.ref (G.1 + 63)] sv vi vl0 (QV sv vi' vl0)) ∧ (∀ {vi vi' : VI}, rec 5  vi = some vi' → Call G mX10_either D 0 0 [.ref (G.1 + 63)] sv vi vl0 (QV sv vi' vl0))) (hD : 2 ≤ D) (hk4 : ∀ (vi : VI), k4 vi = some (vi') → J G Γ 0 0 4 [(0, .ref (G.1 + 63))] [] sv vi vl0) : ∀ (vi : VI), fX10_product_38 rec k4 vi = some (vi') → J G Γ 0 0 38 [(0, .ref (G.1 + 63))] [] sv vi vl0 := by
  intro vi  h
  unfold fX10_product_38 at h
  refine j_aload_n B dX10_product_38 rfl 0 rfl ?_
  obtain ⟨r3, hr3, h⟩ := h_bind h
  refine j_cVI (rest := []) B (tX10_looksOn hW hr3) cls10 (wf_65 hW) jt_RX10_198 wi_X10_looksOn ws_X10_looksOn rfl (by omega) (Nat.le_refl _) (Nat.le_refl _) rfl (Nat.le_of_ble_eq_true rfl) dX10_product_39 ?_
  refine j_istore_n (L' := [(1, .int r3), (0, .ref (G.1 + 63))]) B dX10_product_42 rfl (by decide) rfl ?_
  refine j_aload_n B dX10_product_43 rfl 1 rfl ?_
  refine j_dup B dX10_product_44 rfl ?_
  refine gf_RX10_183 B rfl (wf_65 hW) dX10_product_45 ?_
  refine j_iconst B dX10_product_48 (v := 1) (by decide) ?_
  refine j_iadd B dX10_product_49 ?_
  refine pf_RX10_183 B rfl (wf_65 hW) dX10_product_50 ?_
  refine j_aload_n B dX10_product_53 rfl 1 rfl ?_
  obtain ⟨r4, hr4, h⟩ := h_bind h
  refine j_cVV (rest := []) B (hR.1  hr4) cls10 (wf_65 hW) jt_RX10_213 wi_X10_operand ws_X10_operand rfl (by omega) (Nat.le_refl _) (Nat.le_refl _) rfl (Nat.le_of_ble_eq_true rfl) dX10_product_54 ?_
  refine j_aload_n B dX10_product_57 rfl 1 rfl ?_
  refine j_iload_n B dX10_product_58 rfl 0 rfl ?_
  refine j_iconst B dX10_product_59 (v := 0) (by decide) ?_
  obtain ⟨r5, hr5, h⟩ := h_bind h
  refine j_cVV (rest := []) B (tX10_addStep hW hr5) cls10 (wf_65 hW) jt_RX10_201 wi_X10_addStep ws_X10_addStep rfl (by omega) (Nat.le_refl _) (Nat.le_refl _) rfl (Nat.le_of_ble_eq_true rfl) dX10_product_60 ?_
  refine j_goto (tgt := 4) B dX10_product_63 (by decide) ?_
  refine j_locals [1] rfl ?_
  exact hk4 (r5)  h
def fX10_product_4 (rec : Nat → VI → Option VI) : Nat → VI → Option (VI)
  | 0, _ => none
  | F + 1, vi => if 0 ≤ (vi 63 18) then some (vi) else (fX10_looksOn vi).bind fun r2 => if r2 = 42 then fX10_product_38 rec (fX10_product_4 rec F) vi else (fX10_looksOn vi).bind fun r6 => if r6 = 47 then fX10_product_38 rec (fX10_product_4 rec F) vi else (fX10_looksOn vi).bind fun r7 => if r7 = 37 then fX10_product_38 rec (fX10_product_4 rec F) vi else some (vi)
theorem tX10_product_4 {G : GT} {sv : SV} {vl0 : VL} {ns : Nat} {D : Nat} {rec : Nat → VI → Option VI} {Γ : CT} {vi' : VI} (B : Base G Γ mX10_product (D + 1) 0 0) (E : Ends G Γ 0 0 (QV sv vi' vl0)) (hW : WF sv ns) (hR : (∀ {vi vi' : VI}, rec 0  vi = some vi' → Call G mX10_operand D 0 0 [.ref (G.1 + 63)] sv vi vl0 (QV sv vi' vl0)) ∧ (∀ {vi vi' : VI}, rec 1  vi = some vi' → Call G mX10_product D 0 0 [.ref (G.1 + 63)] sv vi vl0 (QV sv vi' vl0)) ∧ (∀ {vi vi' : VI}, rec 2  vi = some vi' → Call G mX10_sum D 0 0 [.ref (G.1 + 63)] sv vi vl0 (QV sv vi' vl0)) ∧ (∀ {vi vi' : VI}, rec 3  vi = some vi' → Call G mX10_compared D 0 0 [.ref (G.1 + 63)] sv vi vl0 (QV sv vi' vl0)) ∧ (∀ {vi vi' : VI}, rec 4  vi = some vi' → Call G mX10_both D 0 0 [.ref (G.1 + 63)] sv vi vl0 (QV sv vi' vl0)) ∧ (∀ {vi vi' : VI}, rec 5  vi = some vi' → Call G mX10_either D 0 0 [.ref (G.1 + 63)] sv vi vl0 (QV sv vi' vl0))) (hD : 2 ≤ D) : ∀ (F : Nat) (vi : VI), fX10_product_4 rec F vi = some (vi') → J G Γ 0 0 4 [(0, .ref (G.1 + 63))] [] sv vi vl0 := by
  intro F
  induction F with
  | zero =>
    intro vi  h
    cases (show (none : Option (VI)) = some (vi') from h)
  | succ F ih =>
    intro vi  h
    rw [fX10_product_4] at h
    refine j_aload_n B dX10_product_4 rfl 0 rfl ?_
    refine gf_RX10_186 B rfl (wf_65 hW) dX10_product_5 ?_
    refine j_if_ge (tgt := 66) B dX10_product_8 (by decide) (fun c => ?_) (fun c => ?_)
    · replace h := h_pos c h
      have e1 := Option.some.inj h
      subst e1
      exact j_vret B E rfl dX10_product_66 (Nat.le_refl _) (Nat.le_refl _) ⟨rfl, rfl, rfl, rfl⟩
    · replace h := h_neg c h
      refine j_aload_n B dX10_product_11 rfl 0 rfl ?_
      obtain ⟨r2, hr2, h⟩ := h_bind h
      refine j_cVI (rest := []) B (tX10_looksOn hW hr2) cls10 (wf_65 hW) jt_RX10_198 wi_X10_looksOn ws_X10_looksOn rfl (by omega) (Nat.le_refl _) (Nat.le_refl _) rfl (Nat.le_of_ble_eq_true rfl) dX10_product_12 ?_
      refine j_bipush B dX10_product_15 (v := 42) (by decide) ?_
      refine j_icmp_eq (tgt := 38) B dX10_product_17 (by decide) (fun c => ?_) (fun c => ?_)
      · replace h := h_pos c h
        refine j_locals [0] rfl ?_
        exact tX10_product_38 B E hW hR hD ih (vi)  h
      · replace h := h_neg c h
        refine j_aload_n B dX10_product_20 rfl 0 rfl ?_
        obtain ⟨r6, hr6, h⟩ := h_bind h
        refine j_cVI (rest := []) B (tX10_looksOn hW hr6) cls10 (wf_65 hW) jt_RX10_198 wi_X10_looksOn ws_X10_looksOn rfl (by omega) (Nat.le_refl _) (Nat.le_refl _) rfl (Nat.le_of_ble_eq_true rfl) dX10_product_21 ?_
        refine j_bipush B dX10_product_24 (v := 47) (by decide) ?_
        refine j_icmp_eq (tgt := 38) B dX10_product_26 (by decide) (fun c => ?_) (fun c => ?_)
        · replace h := h_pos c h
          refine j_locals [0] rfl ?_
          exact tX10_product_38 B E hW hR hD ih (vi)  h
        · replace h := h_neg c h
          refine j_aload_n B dX10_product_29 rfl 0 rfl ?_
          obtain ⟨r7, hr7, h⟩ := h_bind h
          refine j_cVI (rest := []) B (tX10_looksOn hW hr7) cls10 (wf_65 hW) jt_RX10_198 wi_X10_looksOn ws_X10_looksOn rfl (by omega) (Nat.le_refl _) (Nat.le_refl _) rfl (Nat.le_of_ble_eq_true rfl) dX10_product_30 ?_
          refine j_bipush B dX10_product_33 (v := 37) (by decide) ?_
          refine j_icmp_ne (tgt := 66) B dX10_product_35 (by decide) (fun c => ?_) (fun c => ?_)
          · replace h := h_neg c h
            have e1 := Option.some.inj h
            subst e1
            exact j_vret B E rfl dX10_product_66 (Nat.le_refl _) (Nat.le_refl _) ⟨rfl, rfl, rfl, rfl⟩
          · replace h := h_pos c h
            refine j_locals [0] rfl ?_
            exact tX10_product_38 B E hW hR hD ih (vi)  h
def fX10_product (rec : Nat → VI → Option VI) (vi0 : VI) : Option (VI) := (rec 0  vi0).bind fun r1 => fX10_product_4 rec FU r1
theorem tX10_product {G : GT} {sv : SV} {vi0 : VI} {vl0 : VL} {ns : Nat} {D : Nat} {rec : Nat → VI → Option VI} {vi' : VI} (hW : WF sv ns) (hR : (∀ {vi vi' : VI}, rec 0  vi = some vi' → Call G mX10_operand D 0 0 [.ref (G.1 + 63)] sv vi vl0 (QV sv vi' vl0)) ∧ (∀ {vi vi' : VI}, rec 1  vi = some vi' → Call G mX10_product D 0 0 [.ref (G.1 + 63)] sv vi vl0 (QV sv vi' vl0)) ∧ (∀ {vi vi' : VI}, rec 2  vi = some vi' → Call G mX10_sum D 0 0 [.ref (G.1 + 63)] sv vi vl0 (QV sv vi' vl0)) ∧ (∀ {vi vi' : VI}, rec 3  vi = some vi' → Call G mX10_compared D 0 0 [.ref (G.1 + 63)] sv vi vl0 (QV sv vi' vl0)) ∧ (∀ {vi vi' : VI}, rec 4  vi = some vi' → Call G mX10_both D 0 0 [.ref (G.1 + 63)] sv vi vl0 (QV sv vi' vl0)) ∧ (∀ {vi vi' : VI}, rec 5  vi = some vi' → Call G mX10_either D 0 0 [.ref (G.1 + 63)] sv vi vl0 (QV sv vi' vl0))) (hD : 2 ≤ D) (h : fX10_product rec vi0 = some (vi')) : Call G mX10_product (D + 1) 0 0 [.ref (G.1 + 63)] sv vi0 vl0 (QV sv vi' vl0) := by
  refine j_mk (by decide +kernel) (Nat.le_of_ble_eq_true rfl) (fun Γ B E => ?_)
  show J G Γ 0 0 0 [(0, .ref (G.1 + 63))] [] sv vi0 vl0
  unfold fX10_product at h
  refine j_aload_n B dX10_product_0 rfl 0 rfl ?_
  obtain ⟨r1, hr1, h⟩ := h_bind h
  refine j_cVV (rest := []) B (hR.1  hr1) cls10 (wf_65 hW) jt_RX10_213 wi_X10_operand ws_X10_operand rfl (by omega) (Nat.le_refl _) (Nat.le_refl _) rfl (Nat.le_of_ble_eq_true rfl) dX10_product_1 ?_
  refine j_locals [0] rfl ?_
  exact tX10_product_4 B E hW hR hD FU (r1)  h
def fX10_sum_29 (rec : Nat → VI → Option VI) (k4 : VI → Option (VI)) (vi : VI) : Option (VI) := (fX10_looksOn vi).bind fun r3 => (rec 1  (j_up vi 63 17 ((vi 63 17) + 1))).bind fun r4 => (fX10_addStep r3 0 r4).bind fun r5 => k4 r5
theorem tX10_sum_29 {G : GT} {sv : SV} {vl0 : VL} {ns : Nat} {D : Nat} {rec : Nat → VI → Option VI} {Γ : CT} {vi' : VI} {k4 : VI → Option (VI)} (B : Base G Γ mX10_sum (D + 1) 0 0) (E : Ends G Γ 0 0 (QV sv vi' vl0)) (hW : WF sv ns) (hR : (∀ {vi vi' : VI}, rec 0  vi = some vi' → Call G mX10_operand D 0 0 [.ref (G.1 + 63)] sv vi vl0 (QV sv vi' vl0)) ∧ (∀ {vi vi' : VI}, rec 1  vi = some vi' → Call G mX10_product D 0 0 [.ref (G.1 + 63)] sv vi vl0 (QV sv vi' vl0)) ∧ (∀ {vi vi' : VI}, rec 2  vi = some vi' → Call G mX10_sum D 0 0 [.ref (G.1 + 63)] sv vi vl0 (QV sv vi' vl0)) ∧ (∀ {vi vi' : VI}, rec 3  vi = some vi' → Call G mX10_compared D 0 0 [.ref (G.1 + 63)] sv vi vl0 (QV sv vi' vl0)) ∧ (∀ {vi vi' : VI}, rec 4  vi = some vi' → Call G mX10_both D 0 0 [.ref (G.1 + 63)] sv vi vl0 (QV sv vi' vl0)) ∧ (∀ {vi vi' : VI}, rec 5  vi = some vi' → Call G mX10_either D 0 0 [.ref (G.1 + 63)] sv vi vl0 (QV sv vi' vl0))) (hD : 2 ≤ D) (hk4 : ∀ (vi : VI), k4 vi = some (vi') → J G Γ 0 0 4 [(0, .ref (G.1 + 63))] [] sv vi vl0) : ∀ (vi : VI), fX10_sum_29 rec k4 vi = some (vi') → J G Γ 0 0 29 [(0, .ref (G.1 + 63))] [] sv vi vl0 := by
  intro vi  h
  unfold fX10_sum_29 at h
  refine j_aload_n B dX10_sum_29 rfl 0 rfl ?_
  obtain ⟨r3, hr3, h⟩ := h_bind h
  refine j_cVI (rest := []) B (tX10_looksOn hW hr3) cls10 (wf_65 hW) jt_RX10_198 wi_X10_looksOn ws_X10_looksOn rfl (by omega) (Nat.le_refl _) (Nat.le_refl _) rfl (Nat.le_of_ble_eq_true rfl) dX10_sum_30 ?_
  refine j_istore_n (L' := [(1, .int r3), (0, .ref (G.1 + 63))]) B dX10_sum_33 rfl (by decide) rfl ?_
  refine j_aload_n B dX10_sum_34 rfl 1 rfl ?_
  refine j_dup B dX10_sum_35 rfl ?_
  refine gf_RX10_183 B rfl (wf_65 hW) dX10_sum_36 ?_
  refine j_iconst B dX10_sum_39 (v := 1) (by decide) ?_
  refine j_iadd B dX10_sum_40 ?_
  refine pf_RX10_183 B rfl (wf_65 hW) dX10_sum_41 ?_
  refine j_aload_n B dX10_sum_44 rfl 1 rfl ?_
  obtain ⟨r4, hr4, h⟩ := h_bind h
  refine j_cVV (rest := []) B (hR.2.1  hr4) cls10 (wf_65 hW) jt_RX10_222 wi_X10_product ws_X10_product rfl (by omega) (Nat.le_refl _) (Nat.le_refl _) rfl (Nat.le_of_ble_eq_true rfl) dX10_sum_45 ?_
  refine j_aload_n B dX10_sum_48 rfl 1 rfl ?_
  refine j_iload_n B dX10_sum_49 rfl 0 rfl ?_
  refine j_iconst B dX10_sum_50 (v := 0) (by decide) ?_
  obtain ⟨r5, hr5, h⟩ := h_bind h
  refine j_cVV (rest := []) B (tX10_addStep hW hr5) cls10 (wf_65 hW) jt_RX10_201 wi_X10_addStep ws_X10_addStep rfl (by omega) (Nat.le_refl _) (Nat.le_refl _) rfl (Nat.le_of_ble_eq_true rfl) dX10_sum_51 ?_
  refine j_goto (tgt := 4) B dX10_sum_54 (by decide) ?_
  refine j_locals [1] rfl ?_
  exact hk4 (r5)  h
def fX10_sum_4 (rec : Nat → VI → Option VI) : Nat → VI → Option (VI)
  | 0, _ => none
  | F + 1, vi => if 0 ≤ (vi 63 18) then some (vi) else (fX10_looksOn vi).bind fun r2 => if r2 = 43 then fX10_sum_29 rec (fX10_sum_4 rec F) vi else (fX10_looksOn vi).bind fun r6 => if r6 = 45 then fX10_sum_29 rec (fX10_sum_4 rec F) vi else some (vi)
theorem tX10_sum_4 {G : GT} {sv : SV} {vl0 : VL} {ns : Nat} {D : Nat} {rec : Nat → VI → Option VI} {Γ : CT} {vi' : VI} (B : Base G Γ mX10_sum (D + 1) 0 0) (E : Ends G Γ 0 0 (QV sv vi' vl0)) (hW : WF sv ns) (hR : (∀ {vi vi' : VI}, rec 0  vi = some vi' → Call G mX10_operand D 0 0 [.ref (G.1 + 63)] sv vi vl0 (QV sv vi' vl0)) ∧ (∀ {vi vi' : VI}, rec 1  vi = some vi' → Call G mX10_product D 0 0 [.ref (G.1 + 63)] sv vi vl0 (QV sv vi' vl0)) ∧ (∀ {vi vi' : VI}, rec 2  vi = some vi' → Call G mX10_sum D 0 0 [.ref (G.1 + 63)] sv vi vl0 (QV sv vi' vl0)) ∧ (∀ {vi vi' : VI}, rec 3  vi = some vi' → Call G mX10_compared D 0 0 [.ref (G.1 + 63)] sv vi vl0 (QV sv vi' vl0)) ∧ (∀ {vi vi' : VI}, rec 4  vi = some vi' → Call G mX10_both D 0 0 [.ref (G.1 + 63)] sv vi vl0 (QV sv vi' vl0)) ∧ (∀ {vi vi' : VI}, rec 5  vi = some vi' → Call G mX10_either D 0 0 [.ref (G.1 + 63)] sv vi vl0 (QV sv vi' vl0))) (hD : 2 ≤ D) : ∀ (F : Nat) (vi : VI), fX10_sum_4 rec F vi = some (vi') → J G Γ 0 0 4 [(0, .ref (G.1 + 63))] [] sv vi vl0 := by
  intro F
  induction F with
  | zero =>
    intro vi  h
    cases (show (none : Option (VI)) = some (vi') from h)
  | succ F ih =>
    intro vi  h
    rw [fX10_sum_4] at h
    refine j_aload_n B dX10_sum_4 rfl 0 rfl ?_
    refine gf_RX10_186 B rfl (wf_65 hW) dX10_sum_5 ?_
    refine j_if_ge (tgt := 57) B dX10_sum_8 (by decide) (fun c => ?_) (fun c => ?_)
    · replace h := h_pos c h
      have e1 := Option.some.inj h
      subst e1
      exact j_vret B E rfl dX10_sum_57 (Nat.le_refl _) (Nat.le_refl _) ⟨rfl, rfl, rfl, rfl⟩
    · replace h := h_neg c h
      refine j_aload_n B dX10_sum_11 rfl 0 rfl ?_
      obtain ⟨r2, hr2, h⟩ := h_bind h
      refine j_cVI (rest := []) B (tX10_looksOn hW hr2) cls10 (wf_65 hW) jt_RX10_198 wi_X10_looksOn ws_X10_looksOn rfl (by omega) (Nat.le_refl _) (Nat.le_refl _) rfl (Nat.le_of_ble_eq_true rfl) dX10_sum_12 ?_
      refine j_bipush B dX10_sum_15 (v := 43) (by decide) ?_
      refine j_icmp_eq (tgt := 29) B dX10_sum_17 (by decide) (fun c => ?_) (fun c => ?_)
      · replace h := h_pos c h
        refine j_locals [0] rfl ?_
        exact tX10_sum_29 B E hW hR hD ih (vi)  h
      · replace h := h_neg c h
        refine j_aload_n B dX10_sum_20 rfl 0 rfl ?_
        obtain ⟨r6, hr6, h⟩ := h_bind h
        refine j_cVI (rest := []) B (tX10_looksOn hW hr6) cls10 (wf_65 hW) jt_RX10_198 wi_X10_looksOn ws_X10_looksOn rfl (by omega) (Nat.le_refl _) (Nat.le_refl _) rfl (Nat.le_of_ble_eq_true rfl) dX10_sum_21 ?_
        refine j_bipush B dX10_sum_24 (v := 45) (by decide) ?_
        refine j_icmp_ne (tgt := 57) B dX10_sum_26 (by decide) (fun c => ?_) (fun c => ?_)
        · replace h := h_neg c h
          have e1 := Option.some.inj h
          subst e1
          exact j_vret B E rfl dX10_sum_57 (Nat.le_refl _) (Nat.le_refl _) ⟨rfl, rfl, rfl, rfl⟩
        · replace h := h_pos c h
          refine j_locals [0] rfl ?_
          exact tX10_sum_29 B E hW hR hD ih (vi)  h
def fX10_sum (rec : Nat → VI → Option VI) (vi0 : VI) : Option (VI) := (rec 1  vi0).bind fun r1 => fX10_sum_4 rec FU r1
theorem tX10_sum {G : GT} {sv : SV} {vi0 : VI} {vl0 : VL} {ns : Nat} {D : Nat} {rec : Nat → VI → Option VI} {vi' : VI} (hW : WF sv ns) (hR : (∀ {vi vi' : VI}, rec 0  vi = some vi' → Call G mX10_operand D 0 0 [.ref (G.1 + 63)] sv vi vl0 (QV sv vi' vl0)) ∧ (∀ {vi vi' : VI}, rec 1  vi = some vi' → Call G mX10_product D 0 0 [.ref (G.1 + 63)] sv vi vl0 (QV sv vi' vl0)) ∧ (∀ {vi vi' : VI}, rec 2  vi = some vi' → Call G mX10_sum D 0 0 [.ref (G.1 + 63)] sv vi vl0 (QV sv vi' vl0)) ∧ (∀ {vi vi' : VI}, rec 3  vi = some vi' → Call G mX10_compared D 0 0 [.ref (G.1 + 63)] sv vi vl0 (QV sv vi' vl0)) ∧ (∀ {vi vi' : VI}, rec 4  vi = some vi' → Call G mX10_both D 0 0 [.ref (G.1 + 63)] sv vi vl0 (QV sv vi' vl0)) ∧ (∀ {vi vi' : VI}, rec 5  vi = some vi' → Call G mX10_either D 0 0 [.ref (G.1 + 63)] sv vi vl0 (QV sv vi' vl0))) (hD : 2 ≤ D) (h : fX10_sum rec vi0 = some (vi')) : Call G mX10_sum (D + 1) 0 0 [.ref (G.1 + 63)] sv vi0 vl0 (QV sv vi' vl0) := by
  refine j_mk (by decide +kernel) (Nat.le_of_ble_eq_true rfl) (fun Γ B E => ?_)
  show J G Γ 0 0 0 [(0, .ref (G.1 + 63))] [] sv vi0 vl0
  unfold fX10_sum at h
  refine j_aload_n B dX10_sum_0 rfl 0 rfl ?_
  obtain ⟨r1, hr1, h⟩ := h_bind h
  refine j_cVV (rest := []) B (hR.2.1  hr1) cls10 (wf_65 hW) jt_RX10_222 wi_X10_product ws_X10_product rfl (by omega) (Nat.le_refl _) (Nat.le_refl _) rfl (Nat.le_of_ble_eq_true rfl) dX10_sum_1 ?_
  refine j_locals [0] rfl ?_
  exact tX10_sum_4 B E hW hR hD FU (r1)  h
def fX10_compared_35 (rec : Nat → VI → Option VI) (x1 : Int32) (vi : VI) : Option (VI) := (rec 2  (j_up vi 63 17 ((vi 63 17) + 1))).bind fun r3 => (fX10_addStep x1 0 r3).bind fun r4 => some (r4)
theorem tX10_compared_35 {G : GT} {sv : SV} {vl0 : VL} {ns : Nat} {D : Nat} {rec : Nat → VI → Option VI} {Γ : CT} {vi' : VI} (B : Base G Γ mX10_compared (D + 1) 0 0) (E : Ends G Γ 0 0 (QV sv vi' vl0)) (hW : WF sv ns) (hR : (∀ {vi vi' : VI}, rec 0  vi = some vi' → Call G mX10_operand D 0 0 [.ref (G.1 + 63)] sv vi vl0 (QV sv vi' vl0)) ∧ (∀ {vi vi' : VI}, rec 1  vi = some vi' → Call G mX10_product D 0 0 [.ref (G.1 + 63)] sv vi vl0 (QV sv vi' vl0)) ∧ (∀ {vi vi' : VI}, rec 2  vi = some vi' → Call G mX10_sum D 0 0 [.ref (G.1 + 63)] sv vi vl0 (QV sv vi' vl0)) ∧ (∀ {vi vi' : VI}, rec 3  vi = some vi' → Call G mX10_compared D 0 0 [.ref (G.1 + 63)] sv vi vl0 (QV sv vi' vl0)) ∧ (∀ {vi vi' : VI}, rec 4  vi = some vi' → Call G mX10_both D 0 0 [.ref (G.1 + 63)] sv vi vl0 (QV sv vi' vl0)) ∧ (∀ {vi vi' : VI}, rec 5  vi = some vi' → Call G mX10_either D 0 0 [.ref (G.1 + 63)] sv vi vl0 (QV sv vi' vl0))) (hD : 2 ≤ D) : ∀ (x1 : Int32) (vi : VI), fX10_compared_35 rec x1 vi = some (vi') → J G Γ 0 0 35 [(0, .ref (G.1 + 63)), (1, .int x1)] [] sv vi vl0 := by
  intro x1 vi  h
  unfold fX10_compared_35 at h
  refine j_aload_n B dX10_compared_35 rfl 0 rfl ?_
  refine j_dup B dX10_compared_36 rfl ?_
  refine gf_RX10_183 B rfl (wf_65 hW) dX10_compared_37 ?_
  refine j_iconst B dX10_compared_40 (v := 1) (by decide) ?_
  refine j_iadd B dX10_compared_41 ?_
  refine pf_RX10_183 B rfl (wf_65 hW) dX10_compared_42 ?_
  refine j_aload_n B dX10_compared_45 rfl 0 rfl ?_
  obtain ⟨r3, hr3, h⟩ := h_bind h
  refine j_cVV (rest := []) B (hR.2.2.1  hr3) cls10 (wf_65 hW) jt_RX10_225 wi_X10_sum ws_X10_sum rfl (by omega) (Nat.le_refl _) (Nat.le_refl _) rfl (Nat.le_of_ble_eq_true rfl) dX10_compared_46 ?_
  refine j_aload_n B dX10_compared_49 rfl 0 rfl ?_
  refine j_iload_n B dX10_compared_50 rfl 1 rfl ?_
  refine j_iconst B dX10_compared_51 (v := 0) (by decide) ?_
  obtain ⟨r4, hr4, h⟩ := h_bind h
  refine j_cVV (rest := []) B (tX10_addStep hW hr4) cls10 (wf_65 hW) jt_RX10_201 wi_X10_addStep ws_X10_addStep rfl (by omega) (Nat.le_refl _) (Nat.le_refl _) rfl (Nat.le_of_ble_eq_true rfl) dX10_compared_52 ?_
  have e1 := Option.some.inj h
  subst e1
  exact j_vret B E rfl dX10_compared_55 (Nat.le_refl _) (Nat.le_refl _) ⟨rfl, rfl, rfl, rfl⟩
def fX10_compared (rec : Nat → VI → Option VI) (vi0 : VI) : Option (VI) := (rec 2  vi0).bind fun r1 => (fX10_looksOn r1).bind fun r2 => if 0 ≤ (r1 63 18) then some (r1) else if r2 = 60 then fX10_compared_35 rec r2 r1 else if r2 = 61 then fX10_compared_35 rec r2 r1 else if r2 = 62 then fX10_compared_35 rec r2 r1 else some (r1)
theorem tX10_compared {G : GT} {sv : SV} {vi0 : VI} {vl0 : VL} {ns : Nat} {D : Nat} {rec : Nat → VI → Option VI} {vi' : VI} (hW : WF sv ns) (hR : (∀ {vi vi' : VI}, rec 0  vi = some vi' → Call G mX10_operand D 0 0 [.ref (G.1 + 63)] sv vi vl0 (QV sv vi' vl0)) ∧ (∀ {vi vi' : VI}, rec 1  vi = some vi' → Call G mX10_product D 0 0 [.ref (G.1 + 63)] sv vi vl0 (QV sv vi' vl0)) ∧ (∀ {vi vi' : VI}, rec 2  vi = some vi' → Call G mX10_sum D 0 0 [.ref (G.1 + 63)] sv vi vl0 (QV sv vi' vl0)) ∧ (∀ {vi vi' : VI}, rec 3  vi = some vi' → Call G mX10_compared D 0 0 [.ref (G.1 + 63)] sv vi vl0 (QV sv vi' vl0)) ∧ (∀ {vi vi' : VI}, rec 4  vi = some vi' → Call G mX10_both D 0 0 [.ref (G.1 + 63)] sv vi vl0 (QV sv vi' vl0)) ∧ (∀ {vi vi' : VI}, rec 5  vi = some vi' → Call G mX10_either D 0 0 [.ref (G.1 + 63)] sv vi vl0 (QV sv vi' vl0))) (hD : 2 ≤ D) (h : fX10_compared rec vi0 = some (vi')) : Call G mX10_compared (D + 1) 0 0 [.ref (G.1 + 63)] sv vi0 vl0 (QV sv vi' vl0) := by
  refine j_mk (by decide +kernel) (Nat.le_of_ble_eq_true rfl) (fun Γ B E => ?_)
  show J G Γ 0 0 0 [(0, .ref (G.1 + 63))] [] sv vi0 vl0
  unfold fX10_compared at h
  refine j_aload_n B dX10_compared_0 rfl 0 rfl ?_
  obtain ⟨r1, hr1, h⟩ := h_bind h
  refine j_cVV (rest := []) B (hR.2.2.1  hr1) cls10 (wf_65 hW) jt_RX10_225 wi_X10_sum ws_X10_sum rfl (by omega) (Nat.le_refl _) (Nat.le_refl _) rfl (Nat.le_of_ble_eq_true rfl) dX10_compared_1 ?_
  refine j_aload_n B dX10_compared_4 rfl 0 rfl ?_
  obtain ⟨r2, hr2, h⟩ := h_bind h
  refine j_cVI (rest := []) B (tX10_looksOn hW hr2) cls10 (wf_65 hW) jt_RX10_198 wi_X10_looksOn ws_X10_looksOn rfl (by omega) (Nat.le_refl _) (Nat.le_refl _) rfl (Nat.le_of_ble_eq_true rfl) dX10_compared_5 ?_
  refine j_istore_n (L' := [(1, .int r2), (0, .ref (G.1 + 63))]) B dX10_compared_8 rfl (by decide) rfl ?_
  refine j_aload_n B dX10_compared_9 rfl 1 rfl ?_
  refine gf_RX10_186 B rfl (wf_65 hW) dX10_compared_10 ?_
  refine j_if_ge (tgt := 34) B dX10_compared_13 (by decide) (fun c => ?_) (fun c => ?_)
  · replace h := h_pos c h
    have e1 := Option.some.inj h
    subst e1
    exact j_vret B E rfl dX10_compared_34 (Nat.le_refl _) (Nat.le_refl _) ⟨rfl, rfl, rfl, rfl⟩
  · replace h := h_neg c h
    refine j_iload_n B dX10_compared_16 rfl 0 rfl ?_
    refine j_bipush B dX10_compared_17 (v := 60) (by decide) ?_
    refine j_icmp_eq (tgt := 35) B dX10_compared_19 (by decide) (fun c => ?_) (fun c => ?_)
    · replace h := h_pos c h
      refine j_locals [1, 0] rfl ?_
      exact tX10_compared_35 B E hW hR hD (r2) (r1)  h
    · replace h := h_neg c h
      refine j_iload_n B dX10_compared_22 rfl 0 rfl ?_
      refine j_bipush B dX10_compared_23 (v := 61) (by decide) ?_
      refine j_icmp_eq (tgt := 35) B dX10_compared_25 (by decide) (fun c => ?_) (fun c => ?_)
      · replace h := h_pos c h
        refine j_locals [1, 0] rfl ?_
        exact tX10_compared_35 B E hW hR hD (r2) (r1)  h
      · replace h := h_neg c h
        refine j_iload_n B dX10_compared_28 rfl 0 rfl ?_
        refine j_bipush B dX10_compared_29 (v := 62) (by decide) ?_
        refine j_icmp_eq (tgt := 35) B dX10_compared_31 (by decide) (fun c => ?_) (fun c => ?_)
        · replace h := h_pos c h
          refine j_locals [1, 0] rfl ?_
          exact tX10_compared_35 B E hW hR hD (r2) (r1)  h
        · replace h := h_neg c h
          have e1 := Option.some.inj h
          subst e1
          exact j_vret B E rfl dX10_compared_34 (Nat.le_refl _) (Nat.le_refl _) ⟨rfl, rfl, rfl, rfl⟩
def fX10_both_4 (rec : Nat → VI → Option VI) : Nat → VI → Option (VI)
  | 0, _ => none
  | F + 1, vi => if 0 ≤ (vi 63 18) then some (vi) else (fX10_looksOn vi).bind fun r2 => if r2 = 38 then (rec 3  (j_up vi 63 17 ((vi 63 17) + 1))).bind fun r3 => (fX10_addStep 38 0 r3).bind fun r4 => fX10_both_4 rec F r4 else some (vi)
theorem tX10_both_4 {G : GT} {sv : SV} {vl0 : VL} {ns : Nat} {D : Nat} {rec : Nat → VI → Option VI} {Γ : CT} {vi' : VI} (B : Base G Γ mX10_both (D + 1) 0 0) (E : Ends G Γ 0 0 (QV sv vi' vl0)) (hW : WF sv ns) (hR : (∀ {vi vi' : VI}, rec 0  vi = some vi' → Call G mX10_operand D 0 0 [.ref (G.1 + 63)] sv vi vl0 (QV sv vi' vl0)) ∧ (∀ {vi vi' : VI}, rec 1  vi = some vi' → Call G mX10_product D 0 0 [.ref (G.1 + 63)] sv vi vl0 (QV sv vi' vl0)) ∧ (∀ {vi vi' : VI}, rec 2  vi = some vi' → Call G mX10_sum D 0 0 [.ref (G.1 + 63)] sv vi vl0 (QV sv vi' vl0)) ∧ (∀ {vi vi' : VI}, rec 3  vi = some vi' → Call G mX10_compared D 0 0 [.ref (G.1 + 63)] sv vi vl0 (QV sv vi' vl0)) ∧ (∀ {vi vi' : VI}, rec 4  vi = some vi' → Call G mX10_both D 0 0 [.ref (G.1 + 63)] sv vi vl0 (QV sv vi' vl0)) ∧ (∀ {vi vi' : VI}, rec 5  vi = some vi' → Call G mX10_either D 0 0 [.ref (G.1 + 63)] sv vi vl0 (QV sv vi' vl0))) (hD : 2 ≤ D) : ∀ (F : Nat) (vi : VI), fX10_both_4 rec F vi = some (vi') → J G Γ 0 0 4 [(0, .ref (G.1 + 63))] [] sv vi vl0 := by
  intro F
  induction F with
  | zero =>
    intro vi  h
    cases (show (none : Option (VI)) = some (vi') from h)
  | succ F ih =>
    intro vi  h
    rw [fX10_both_4] at h
    refine j_aload_n B dX10_both_4 rfl 0 rfl ?_
    refine gf_RX10_186 B rfl (wf_65 hW) dX10_both_5 ?_
    refine j_if_ge (tgt := 44) B dX10_both_8 (by decide) (fun c => ?_) (fun c => ?_)
    · replace h := h_pos c h
      have e1 := Option.some.inj h
      subst e1
      exact j_vret B E rfl dX10_both_44 (Nat.le_refl _) (Nat.le_refl _) ⟨rfl, rfl, rfl, rfl⟩
    · replace h := h_neg c h
      refine j_aload_n B dX10_both_11 rfl 0 rfl ?_
      obtain ⟨r2, hr2, h⟩ := h_bind h
      refine j_cVI (rest := []) B (tX10_looksOn hW hr2) cls10 (wf_65 hW) jt_RX10_198 wi_X10_looksOn ws_X10_looksOn rfl (by omega) (Nat.le_refl _) (Nat.le_refl _) rfl (Nat.le_of_ble_eq_true rfl) dX10_both_12 ?_
      refine j_bipush B dX10_both_15 (v := 38) (by decide) ?_
      refine j_icmp_ne (tgt := 44) B dX10_both_17 (by decide) (fun c => ?_) (fun c => ?_)
      · replace h := h_neg c h
        have e1 := Option.some.inj h
        subst e1
        exact j_vret B E rfl dX10_both_44 (Nat.le_refl _) (Nat.le_refl _) ⟨rfl, rfl, rfl, rfl⟩
      · replace h := h_pos c h
        refine j_aload_n B dX10_both_20 rfl 0 rfl ?_
        refine j_dup B dX10_both_21 rfl ?_
        refine gf_RX10_183 B rfl (wf_65 hW) dX10_both_22 ?_
        refine j_iconst B dX10_both_25 (v := 1) (by decide) ?_
        refine j_iadd B dX10_both_26 ?_
        refine pf_RX10_183 B rfl (wf_65 hW) dX10_both_27 ?_
        refine j_aload_n B dX10_both_30 rfl 0 rfl ?_
        obtain ⟨r3, hr3, h⟩ := h_bind h
        refine j_cVV (rest := []) B (hR.2.2.2.1  hr3) cls10 (wf_65 hW) jt_RX10_228 wi_X10_compared ws_X10_compared rfl (by omega) (Nat.le_refl _) (Nat.le_refl _) rfl (Nat.le_of_ble_eq_true rfl) dX10_both_31 ?_
        refine j_aload_n B dX10_both_34 rfl 0 rfl ?_
        refine j_bipush B dX10_both_35 (v := 38) (by decide) ?_
        refine j_iconst B dX10_both_37 (v := 0) (by decide) ?_
        obtain ⟨r4, hr4, h⟩ := h_bind h
        refine j_cVV (rest := []) B (tX10_addStep hW hr4) cls10 (wf_65 hW) jt_RX10_201 wi_X10_addStep ws_X10_addStep rfl (by omega) (Nat.le_refl _) (Nat.le_refl _) rfl (Nat.le_of_ble_eq_true rfl) dX10_both_38 ?_
        refine j_goto (tgt := 4) B dX10_both_41 (by decide) ?_
        refine j_locals [0] rfl ?_
        exact ih (r4)  h
def fX10_both (rec : Nat → VI → Option VI) (vi0 : VI) : Option (VI) := (rec 3  vi0).bind fun r1 => fX10_both_4 rec FU r1
theorem tX10_both {G : GT} {sv : SV} {vi0 : VI} {vl0 : VL} {ns : Nat} {D : Nat} {rec : Nat → VI → Option VI} {vi' : VI} (hW : WF sv ns) (hR : (∀ {vi vi' : VI}, rec 0  vi = some vi' → Call G mX10_operand D 0 0 [.ref (G.1 + 63)] sv vi vl0 (QV sv vi' vl0)) ∧ (∀ {vi vi' : VI}, rec 1  vi = some vi' → Call G mX10_product D 0 0 [.ref (G.1 + 63)] sv vi vl0 (QV sv vi' vl0)) ∧ (∀ {vi vi' : VI}, rec 2  vi = some vi' → Call G mX10_sum D 0 0 [.ref (G.1 + 63)] sv vi vl0 (QV sv vi' vl0)) ∧ (∀ {vi vi' : VI}, rec 3  vi = some vi' → Call G mX10_compared D 0 0 [.ref (G.1 + 63)] sv vi vl0 (QV sv vi' vl0)) ∧ (∀ {vi vi' : VI}, rec 4  vi = some vi' → Call G mX10_both D 0 0 [.ref (G.1 + 63)] sv vi vl0 (QV sv vi' vl0)) ∧ (∀ {vi vi' : VI}, rec 5  vi = some vi' → Call G mX10_either D 0 0 [.ref (G.1 + 63)] sv vi vl0 (QV sv vi' vl0))) (hD : 2 ≤ D) (h : fX10_both rec vi0 = some (vi')) : Call G mX10_both (D + 1) 0 0 [.ref (G.1 + 63)] sv vi0 vl0 (QV sv vi' vl0) := by
  refine j_mk (by decide +kernel) (Nat.le_of_ble_eq_true rfl) (fun Γ B E => ?_)
  show J G Γ 0 0 0 [(0, .ref (G.1 + 63))] [] sv vi0 vl0
  unfold fX10_both at h
  refine j_aload_n B dX10_both_0 rfl 0 rfl ?_
  obtain ⟨r1, hr1, h⟩ := h_bind h
  refine j_cVV (rest := []) B (hR.2.2.2.1  hr1) cls10 (wf_65 hW) jt_RX10_228 wi_X10_compared ws_X10_compared rfl (by omega) (Nat.le_refl _) (Nat.le_refl _) rfl (Nat.le_of_ble_eq_true rfl) dX10_both_1 ?_
  refine j_locals [0] rfl ?_
  exact tX10_both_4 B E hW hR hD FU (r1)  h
def fX10_either_4 (rec : Nat → VI → Option VI) : Nat → VI → Option (VI)
  | 0, _ => none
  | F + 1, vi => if 0 ≤ (vi 63 18) then some (vi) else (fX10_looksOn vi).bind fun r2 => if r2 = 124 then (rec 4  (j_up vi 63 17 ((vi 63 17) + 1))).bind fun r3 => (fX10_addStep 124 0 r3).bind fun r4 => fX10_either_4 rec F r4 else some (vi)
theorem tX10_either_4 {G : GT} {sv : SV} {vl0 : VL} {ns : Nat} {D : Nat} {rec : Nat → VI → Option VI} {Γ : CT} {vi' : VI} (B : Base G Γ mX10_either (D + 1) 0 0) (E : Ends G Γ 0 0 (QV sv vi' vl0)) (hW : WF sv ns) (hR : (∀ {vi vi' : VI}, rec 0  vi = some vi' → Call G mX10_operand D 0 0 [.ref (G.1 + 63)] sv vi vl0 (QV sv vi' vl0)) ∧ (∀ {vi vi' : VI}, rec 1  vi = some vi' → Call G mX10_product D 0 0 [.ref (G.1 + 63)] sv vi vl0 (QV sv vi' vl0)) ∧ (∀ {vi vi' : VI}, rec 2  vi = some vi' → Call G mX10_sum D 0 0 [.ref (G.1 + 63)] sv vi vl0 (QV sv vi' vl0)) ∧ (∀ {vi vi' : VI}, rec 3  vi = some vi' → Call G mX10_compared D 0 0 [.ref (G.1 + 63)] sv vi vl0 (QV sv vi' vl0)) ∧ (∀ {vi vi' : VI}, rec 4  vi = some vi' → Call G mX10_both D 0 0 [.ref (G.1 + 63)] sv vi vl0 (QV sv vi' vl0)) ∧ (∀ {vi vi' : VI}, rec 5  vi = some vi' → Call G mX10_either D 0 0 [.ref (G.1 + 63)] sv vi vl0 (QV sv vi' vl0))) (hD : 2 ≤ D) : ∀ (F : Nat) (vi : VI), fX10_either_4 rec F vi = some (vi') → J G Γ 0 0 4 [(0, .ref (G.1 + 63))] [] sv vi vl0 := by
  intro F
  induction F with
  | zero =>
    intro vi  h
    cases (show (none : Option (VI)) = some (vi') from h)
  | succ F ih =>
    intro vi  h
    rw [fX10_either_4] at h
    refine j_aload_n B dX10_either_4 rfl 0 rfl ?_
    refine gf_RX10_186 B rfl (wf_65 hW) dX10_either_5 ?_
    refine j_if_ge (tgt := 44) B dX10_either_8 (by decide) (fun c => ?_) (fun c => ?_)
    · replace h := h_pos c h
      have e1 := Option.some.inj h
      subst e1
      exact j_vret B E rfl dX10_either_44 (Nat.le_refl _) (Nat.le_refl _) ⟨rfl, rfl, rfl, rfl⟩
    · replace h := h_neg c h
      refine j_aload_n B dX10_either_11 rfl 0 rfl ?_
      obtain ⟨r2, hr2, h⟩ := h_bind h
      refine j_cVI (rest := []) B (tX10_looksOn hW hr2) cls10 (wf_65 hW) jt_RX10_198 wi_X10_looksOn ws_X10_looksOn rfl (by omega) (Nat.le_refl _) (Nat.le_refl _) rfl (Nat.le_of_ble_eq_true rfl) dX10_either_12 ?_
      refine j_bipush B dX10_either_15 (v := 124) (by decide) ?_
      refine j_icmp_ne (tgt := 44) B dX10_either_17 (by decide) (fun c => ?_) (fun c => ?_)
      · replace h := h_neg c h
        have e1 := Option.some.inj h
        subst e1
        exact j_vret B E rfl dX10_either_44 (Nat.le_refl _) (Nat.le_refl _) ⟨rfl, rfl, rfl, rfl⟩
      · replace h := h_pos c h
        refine j_aload_n B dX10_either_20 rfl 0 rfl ?_
        refine j_dup B dX10_either_21 rfl ?_
        refine gf_RX10_183 B rfl (wf_65 hW) dX10_either_22 ?_
        refine j_iconst B dX10_either_25 (v := 1) (by decide) ?_
        refine j_iadd B dX10_either_26 ?_
        refine pf_RX10_183 B rfl (wf_65 hW) dX10_either_27 ?_
        refine j_aload_n B dX10_either_30 rfl 0 rfl ?_
        obtain ⟨r3, hr3, h⟩ := h_bind h
        refine j_cVV (rest := []) B (hR.2.2.2.2.1  hr3) cls10 (wf_65 hW) jt_RX10_231 wi_X10_both ws_X10_both rfl (by omega) (Nat.le_refl _) (Nat.le_refl _) rfl (Nat.le_of_ble_eq_true rfl) dX10_either_31 ?_
        refine j_aload_n B dX10_either_34 rfl 0 rfl ?_
        refine j_bipush B dX10_either_35 (v := 124) (by decide) ?_
        refine j_iconst B dX10_either_37 (v := 0) (by decide) ?_
        obtain ⟨r4, hr4, h⟩ := h_bind h
        refine j_cVV (rest := []) B (tX10_addStep hW hr4) cls10 (wf_65 hW) jt_RX10_201 wi_X10_addStep ws_X10_addStep rfl (by omega) (Nat.le_refl _) (Nat.le_refl _) rfl (Nat.le_of_ble_eq_true rfl) dX10_either_38 ?_
        refine j_goto (tgt := 4) B dX10_either_41 (by decide) ?_
        refine j_locals [0] rfl ?_
        exact ih (r4)  h
def fX10_either (rec : Nat → VI → Option VI) (vi0 : VI) : Option (VI) := (rec 4  vi0).bind fun r1 => fX10_either_4 rec FU r1
theorem tX10_either {G : GT} {sv : SV} {vi0 : VI} {vl0 : VL} {ns : Nat} {D : Nat} {rec : Nat → VI → Option VI} {vi' : VI} (hW : WF sv ns) (hR : (∀ {vi vi' : VI}, rec 0  vi = some vi' → Call G mX10_operand D 0 0 [.ref (G.1 + 63)] sv vi vl0 (QV sv vi' vl0)) ∧ (∀ {vi vi' : VI}, rec 1  vi = some vi' → Call G mX10_product D 0 0 [.ref (G.1 + 63)] sv vi vl0 (QV sv vi' vl0)) ∧ (∀ {vi vi' : VI}, rec 2  vi = some vi' → Call G mX10_sum D 0 0 [.ref (G.1 + 63)] sv vi vl0 (QV sv vi' vl0)) ∧ (∀ {vi vi' : VI}, rec 3  vi = some vi' → Call G mX10_compared D 0 0 [.ref (G.1 + 63)] sv vi vl0 (QV sv vi' vl0)) ∧ (∀ {vi vi' : VI}, rec 4  vi = some vi' → Call G mX10_both D 0 0 [.ref (G.1 + 63)] sv vi vl0 (QV sv vi' vl0)) ∧ (∀ {vi vi' : VI}, rec 5  vi = some vi' → Call G mX10_either D 0 0 [.ref (G.1 + 63)] sv vi vl0 (QV sv vi' vl0))) (hD : 2 ≤ D) (h : fX10_either rec vi0 = some (vi')) : Call G mX10_either (D + 1) 0 0 [.ref (G.1 + 63)] sv vi0 vl0 (QV sv vi' vl0) := by
  refine j_mk (by decide +kernel) (Nat.le_of_ble_eq_true rfl) (fun Γ B E => ?_)
  show J G Γ 0 0 0 [(0, .ref (G.1 + 63))] [] sv vi0 vl0
  unfold fX10_either at h
  refine j_aload_n B dX10_either_0 rfl 0 rfl ?_
  obtain ⟨r1, hr1, h⟩ := h_bind h
  refine j_cVV (rest := []) B (hR.2.2.2.2.1  hr1) cls10 (wf_65 hW) jt_RX10_231 wi_X10_both ws_X10_both rfl (by omega) (Nat.le_refl _) (Nat.le_refl _) rfl (Nat.le_of_ble_eq_true rfl) dX10_either_1 ?_
  refine j_locals [0] rfl ?_
  exact tX10_either_4 B E hW hR hD FU (r1)  h
def fX10g : Nat → Nat → VI → Option VI
  | 0, _, _ => none
  | D + 1, sel, vi => if sel = 0 then fX10_operand (fX10g D)  vi else if sel = 1 then fX10_product (fX10g D)  vi else if sel = 2 then fX10_sum (fX10g D)  vi else if sel = 3 then fX10_compared (fX10g D)  vi else if sel = 4 then fX10_both (fX10g D)  vi else if sel = 5 then fX10_either (fX10g D)  vi else none
theorem tX10g {G : GT} {sv : SV} {vl0 : VL} {ns : Nat} (hW : WF sv ns) : ∀ n : Nat, (∀ {vi vi' : VI}, fX10g n 0  vi = some vi' → Call G mX10_operand (n + 2) 0 0 [.ref (G.1 + 63)] sv vi vl0 (QV sv vi' vl0)) ∧ (∀ {vi vi' : VI}, fX10g n 1  vi = some vi' → Call G mX10_product (n + 2) 0 0 [.ref (G.1 + 63)] sv vi vl0 (QV sv vi' vl0)) ∧ (∀ {vi vi' : VI}, fX10g n 2  vi = some vi' → Call G mX10_sum (n + 2) 0 0 [.ref (G.1 + 63)] sv vi vl0 (QV sv vi' vl0)) ∧ (∀ {vi vi' : VI}, fX10g n 3  vi = some vi' → Call G mX10_compared (n + 2) 0 0 [.ref (G.1 + 63)] sv vi vl0 (QV sv vi' vl0)) ∧ (∀ {vi vi' : VI}, fX10g n 4  vi = some vi' → Call G mX10_both (n + 2) 0 0 [.ref (G.1 + 63)] sv vi vl0 (QV sv vi' vl0)) ∧ (∀ {vi vi' : VI}, fX10g n 5  vi = some vi' → Call G mX10_either (n + 2) 0 0 [.ref (G.1 + 63)] sv vi vl0 (QV sv vi' vl0)) := by
  intro n
  induction n with
  | zero => refine ⟨?_, ?_, ?_, ?_, ?_, ?_⟩ <;> (intros; rename_i h; cases h)
  | succ n ih =>
    refine ⟨?_, ?_, ?_, ?_, ?_, ?_⟩
    · intro  vi vi' h
      rw [fX10g] at h
      replace h := h_pos rfl h
      exact tX10_operand (D := n + 2) (rec := fX10g n) hW ih (by omega) h
    · intro  vi vi' h
      rw [fX10g] at h
      replace h := h_neg (by decide) h
      replace h := h_pos rfl h
      exact tX10_product (D := n + 2) (rec := fX10g n) hW ih (by omega) h
    · intro  vi vi' h
      rw [fX10g] at h
      replace h := h_neg (by decide) h
      replace h := h_neg (by decide) h
      replace h := h_pos rfl h
      exact tX10_sum (D := n + 2) (rec := fX10g n) hW ih (by omega) h
    · intro  vi vi' h
      rw [fX10g] at h
      replace h := h_neg (by decide) h
      replace h := h_neg (by decide) h
      replace h := h_neg (by decide) h
      replace h := h_pos rfl h
      exact tX10_compared (D := n + 2) (rec := fX10g n) hW ih (by omega) h
    · intro  vi vi' h
      rw [fX10g] at h
      replace h := h_neg (by decide) h
      replace h := h_neg (by decide) h
      replace h := h_neg (by decide) h
      replace h := h_neg (by decide) h
      replace h := h_pos rfl h
      exact tX10_both (D := n + 2) (rec := fX10g n) hW ih (by omega) h
    · intro  vi vi' h
      rw [fX10g] at h
      replace h := h_neg (by decide) h
      replace h := h_neg (by decide) h
      replace h := h_neg (by decide) h
      replace h := h_neg (by decide) h
      replace h := h_neg (by decide) h
      replace h := h_pos rfl h
      exact tX10_either (D := n + 2) (rec := fX10g n) hW ih (by omega) h
theorem tX10_operand_g {G : GT} {sv : SV} {vi : VI} {vl0 : VL} {ns : Nat} {vi' : VI} (hW : WF sv ns) (h : fX10g 400 0  vi = some vi') : Call G mX10_operand 402 0 0 [.ref (G.1 + 63)] sv vi vl0 (QV sv vi' vl0) := (tX10g hW 400).1 h
theorem tX10_product_g {G : GT} {sv : SV} {vi : VI} {vl0 : VL} {ns : Nat} {vi' : VI} (hW : WF sv ns) (h : fX10g 400 1  vi = some vi') : Call G mX10_product 402 0 0 [.ref (G.1 + 63)] sv vi vl0 (QV sv vi' vl0) := (tX10g hW 400).2.1 h
theorem tX10_sum_g {G : GT} {sv : SV} {vi : VI} {vl0 : VL} {ns : Nat} {vi' : VI} (hW : WF sv ns) (h : fX10g 400 2  vi = some vi') : Call G mX10_sum 402 0 0 [.ref (G.1 + 63)] sv vi vl0 (QV sv vi' vl0) := (tX10g hW 400).2.2.1 h
theorem tX10_compared_g {G : GT} {sv : SV} {vi : VI} {vl0 : VL} {ns : Nat} {vi' : VI} (hW : WF sv ns) (h : fX10g 400 3  vi = some vi') : Call G mX10_compared 402 0 0 [.ref (G.1 + 63)] sv vi vl0 (QV sv vi' vl0) := (tX10g hW 400).2.2.2.1 h
theorem tX10_both_g {G : GT} {sv : SV} {vi : VI} {vl0 : VL} {ns : Nat} {vi' : VI} (hW : WF sv ns) (h : fX10g 400 4  vi = some vi') : Call G mX10_both 402 0 0 [.ref (G.1 + 63)] sv vi vl0 (QV sv vi' vl0) := (tX10g hW 400).2.2.2.2.1 h
theorem tX10_either_g {G : GT} {sv : SV} {vi : VI} {vl0 : VL} {ns : Nat} {vi' : VI} (hW : WF sv ns) (h : fX10g 400 5  vi = some vi') : Call G mX10_either 402 0 0 [.ref (G.1 + 63)] sv vi vl0 (QV sv vi' vl0) := (tX10g hW 400).2.2.2.2.2 h
def fX10_line_66  (x1 : Int32) (vi : VI) : Option (VI) := if inb x1 122 = true then some ((j_up (j_up vi 79 x1.toNatClampNeg (vi 63 20).toInt16.toInt32.toInt16.toInt32) 77 (1 : Int32).toNatClampNeg (((j_up vi 79 x1.toNatClampNeg (vi 63 20).toInt16.toInt32.toInt16.toInt32) 77 (1 : Int32).toNatClampNeg) + 1))) else none
theorem tX10_line_66 {G : GT} {sv : SV} {vl0 : VL} {ns : Nat} {Γ : CT} {vi' : VI} (B : Base G Γ mX10_line 403 0 0) (E : Ends G Γ 0 0 (QV sv vi' vl0)) (hW : WF sv ns) : ∀ (x1 : Int32) (vi : VI), fX10_line_66  x1 vi = some (vi') → J G Γ 0 0 66 [(0, .ref (G.1 + 63)), (1, .int x1)] [] sv vi vl0 := by
  intro x1 vi  h
  unfold fX10_line_66 at h
  refine j_aload_n B dX10_line_66 rfl 0 rfl ?_
  refine gf_RX10_59 B rfl (wf_65 hW) (wf_177 hW) dX10_line_67 ?_
  refine j_iload_n B dX10_line_70 rfl 1 rfl ?_
  refine j_aload_n B dX10_line_71 rfl 0 rfl ?_
  refine gf_RX10_189 B rfl (wf_65 hW) dX10_line_72 ?_
  refine j_i2s B dX10_line_75 ?_
  obtain ⟨b3, h⟩ := h_inb h
  refine j_sast B ((wf_81 hW)) b3 dX10_line_76 ?_
  refine j_aload_n B dX10_line_77 rfl 0 rfl ?_
  refine gf_RX10_52 B rfl (wf_65 hW) (wf_175 hW) dX10_line_78 ?_
  refine j_iconst B dX10_line_81 (v := 1) (by decide) ?_
  refine j_dup2 B dX10_line_82 rfl rfl ?_
  refine j_iald B ((wf_79 hW)) (vp_in_iff.mpr ⟨by decide, by decide⟩) dX10_line_83 ?_
  refine j_iconst B dX10_line_84 (v := 1) (by decide) ?_
  refine j_iadd B dX10_line_85 ?_
  refine j_iast B ((wf_79 hW)) (vp_in_iff.mpr ⟨by decide, by decide⟩) dX10_line_86 ?_
  have e1 := Option.some.inj h
  subst e1
  exact j_vret B E rfl dX10_line_87 (Nat.le_refl _) (Nat.le_refl _) ⟨rfl, rfl, rfl, rfl⟩
def fX10_line  (vi0 : VI) : Option (VI) := if inb (61 + (vi0 77 (1 : Int32).toNatClampNeg)) 122 = true then (fX10g 400 5  (j_up vi0 78 (61 + (vi0 77 (1 : Int32).toNatClampNeg)).toNatClampNeg (vi0 63 20).toInt16.toInt32.toInt16.toInt32)).bind fun r2 => if 0 ≤ (r2 63 18) then fX10_line_66  (61 + (vi0 77 (1 : Int32).toNatClampNeg)) r2 else (fX10_looksOn r2).bind fun r4 => if r4 = 63 then if inb (61 + (vi0 77 (1 : Int32).toNatClampNeg)) 122 = true then (fX10g 400 5  (j_up (j_up r2 63 17 ((r2 63 17) + 1)) 78 (61 + (vi0 77 (1 : Int32).toNatClampNeg)).toNatClampNeg ((j_up r2 63 17 ((r2 63 17) + 1)) 63 20).toInt16.toInt32.toInt16.toInt32)).bind fun r6 => fX10_line_66  (61 + (vi0 77 (1 : Int32).toNatClampNeg)) r6 else none else fX10_line_66  (61 + (vi0 77 (1 : Int32).toNatClampNeg)) r2 else none
theorem tX10_line {G : GT} {sv : SV} {vi0 : VI} {vl0 : VL} {ns : Nat} {vi' : VI} (hW : WF sv ns) (h : fX10_line vi0 = some (vi')) : Call G mX10_line 403 0 0 [.ref (G.1 + 63)] sv vi0 vl0 (QV sv vi' vl0) := by
  refine j_mk (by decide +kernel) (Nat.le_of_ble_eq_true rfl) (fun Γ B E => ?_)
  show J G Γ 0 0 0 [(0, .ref (G.1 + 63))] [] sv vi0 vl0
  unfold fX10_line at h
  refine j_bipush B dX10_line_0 (v := 61) (by decide) ?_
  refine j_aload_n B dX10_line_2 rfl 0 rfl ?_
  refine gf_RX10_52 B rfl (wf_65 hW) (wf_175 hW) dX10_line_3 ?_
  refine j_iconst B dX10_line_6 (v := 1) (by decide) ?_
  refine j_iald B ((wf_79 hW)) (vp_in_iff.mpr ⟨by decide, by decide⟩) dX10_line_7 ?_
  refine j_iadd B dX10_line_8 ?_
  refine j_istore_n (L' := [(1, .int (61 + (vi0 77 (1 : Int32).toNatClampNeg))), (0, .ref (G.1 + 63))]) B dX10_line_9 rfl (by decide) rfl ?_
  refine j_aload_n B dX10_line_10 rfl 1 rfl ?_
  refine gf_RX10_55 B rfl (wf_65 hW) (wf_176 hW) dX10_line_11 ?_
  refine j_iload_n B dX10_line_14 rfl 0 rfl ?_
  refine j_aload_n B dX10_line_15 rfl 1 rfl ?_
  refine gf_RX10_189 B rfl (wf_65 hW) dX10_line_16 ?_
  refine j_i2s B dX10_line_19 ?_
  obtain ⟨b1, h⟩ := h_inb h
  refine j_sast B ((wf_80 hW)) b1 dX10_line_20 ?_
  refine j_aload_n B dX10_line_21 rfl 1 rfl ?_
  obtain ⟨r2, hr2, h⟩ := h_bind h
  refine j_cVV (rest := []) B (tX10_either_g hW hr2) cls10 (wf_65 hW) jt_RX10_216 wi_X10_either ws_X10_either rfl (by decide) (Nat.le_refl _) (Nat.le_refl _) rfl (Nat.le_of_ble_eq_true rfl) dX10_line_22 ?_
  refine j_aload_n B dX10_line_25 rfl 1 rfl ?_
  refine gf_RX10_186 B rfl (wf_65 hW) dX10_line_26 ?_
  refine j_if_ge (tgt := 66) B dX10_line_29 (by decide) (fun c => ?_) (fun c => ?_)
  · replace h := h_pos c h
    refine j_locals [1, 0] rfl ?_
    exact tX10_line_66 B E hW ((61 + (vi0 77 (1 : Int32).toNatClampNeg))) (r2)  h
  · replace h := h_neg c h
    refine j_aload_n B dX10_line_32 rfl 1 rfl ?_
    obtain ⟨r4, hr4, h⟩ := h_bind h
    refine j_cVI (rest := []) B (tX10_looksOn hW hr4) cls10 (wf_65 hW) jt_RX10_198 wi_X10_looksOn ws_X10_looksOn rfl (by decide) (Nat.le_refl _) (Nat.le_refl _) rfl (Nat.le_of_ble_eq_true rfl) dX10_line_33 ?_
    refine j_bipush B dX10_line_36 (v := 63) (by decide) ?_
    refine j_icmp_ne (tgt := 66) B dX10_line_38 (by decide) (fun c => ?_) (fun c => ?_)
    · replace h := h_neg c h
      refine j_locals [1, 0] rfl ?_
      exact tX10_line_66 B E hW ((61 + (vi0 77 (1 : Int32).toNatClampNeg))) (r2)  h
    · replace h := h_pos c h
      refine j_aload_n B dX10_line_41 rfl 1 rfl ?_
      refine j_dup B dX10_line_42 rfl ?_
      refine gf_RX10_183 B rfl (wf_65 hW) dX10_line_43 ?_
      refine j_iconst B dX10_line_46 (v := 1) (by decide) ?_
      refine j_iadd B dX10_line_47 ?_
      refine pf_RX10_183 B rfl (wf_65 hW) dX10_line_48 ?_
      refine j_aload_n B dX10_line_51 rfl 1 rfl ?_
      refine gf_RX10_55 B rfl (wf_65 hW) (wf_176 hW) dX10_line_52 ?_
      refine j_iload_n B dX10_line_55 rfl 0 rfl ?_
      refine j_aload_n B dX10_line_56 rfl 1 rfl ?_
      refine gf_RX10_189 B rfl (wf_65 hW) dX10_line_57 ?_
      refine j_i2s B dX10_line_60 ?_
      obtain ⟨b5, h⟩ := h_inb h
      refine j_sast B ((wf_80 hW)) b5 dX10_line_61 ?_
      refine j_aload_n B dX10_line_62 rfl 1 rfl ?_
      obtain ⟨r6, hr6, h⟩ := h_bind h
      refine j_cVV (rest := []) B (tX10_either_g hW hr6) cls10 (wf_65 hW) jt_RX10_216 wi_X10_either ws_X10_either rfl (by decide) (Nat.le_refl _) (Nat.le_refl _) rfl (Nat.le_of_ble_eq_true rfl) dX10_line_63 ?_
      refine j_locals [1, 0] rfl ?_
      exact tX10_line_66 B E hW ((61 + (vi0 77 (1 : Int32).toNatClampNeg))) (r6)  h
