def fX9_sillAt (ns : Nat) (x1 : Int32) (vi0 : VI) : Option ((Option Nat)) := if x1 < 0 then some (none) else if (vi0 0 1) ≤ x1 then some (none) else if 5 ≤ x1 then some (none) else if inb x1 ns = true then some ((some (98 + 5 * x1.toNatClampNeg))) else none
theorem tX9_sillAt {G : GT} {sv : SV} {vi0 : VI} {vl0 : VL} {ns : Nat} {x1 : Int32} {r : (Option Nat)} (hW : WF sv ns) (h : fX9_sillAt ns x1 vi0 = some (r)) : Call G mX9_sillAt 0 0 0 [.ref (G.1 + 0), .int x1] sv vi0 vl0 (QN G r sv vi0 vl0) := by
  refine j_mk (by decide +kernel) (Nat.le_of_ble_eq_true rfl) (fun Γ B E => ?_)
  show J G Γ 0 0 0 [(0, .ref (G.1 + 0)), (1, .int x1)] [] sv vi0 vl0
  unfold fX9_sillAt at h
  refine j_iload_n B dX9_sillAt_0 rfl 1 rfl ?_
  refine j_if_lt (tgt := 26) B dX9_sillAt_1 (by decide) (fun c => ?_) (fun c => ?_)
  · replace h := h_pos c h
    refine j_null B dX9_sillAt_26 ?_
    have e1 := Option.some.inj h
    subst e1
    exact j_aret B E rfl (Or.inl rfl) dX9_sillAt_27 (Nat.le_refl _) (Nat.le_refl _) ⟨rfl, rfl, rfl, rfl⟩
  · replace h := h_neg c h
    refine j_iload_n B dX9_sillAt_4 rfl 1 rfl ?_
    refine j_aload_n B dX9_sillAt_5 rfl 0 rfl ?_
    refine gf_RX9_94 B rfl (wf_2 hW) dX9_sillAt_6 ?_
    refine j_icmp_ge (tgt := 26) B dX9_sillAt_9 (by decide) (fun c => ?_) (fun c => ?_)
    · replace h := h_pos c h
      refine j_null B dX9_sillAt_26 ?_
      have e1 := Option.some.inj h
      subst e1
      exact j_aret B E rfl (Or.inl rfl) dX9_sillAt_27 (Nat.le_refl _) (Nat.le_refl _) ⟨rfl, rfl, rfl, rfl⟩
    · replace h := h_neg c h
      refine j_iload_n B dX9_sillAt_12 rfl 1 rfl ?_
      refine j_iconst B dX9_sillAt_13 (v := 5) (by decide) ?_
      refine j_icmp_ge (tgt := 26) B dX9_sillAt_14 (by decide) (fun c => ?_) (fun c => ?_)
      · replace h := h_pos c h
        refine j_null B dX9_sillAt_26 ?_
        have e1 := Option.some.inj h
        subst e1
        exact j_aret B E rfl (Or.inl rfl) dX9_sillAt_27 (Nat.le_refl _) (Nat.le_refl _) ⟨rfl, rfl, rfl, rfl⟩
      · replace h := h_neg c h
        refine j_aload_n B dX9_sillAt_17 rfl 0 rfl ?_
        refine gf_RX9_11 B rfl (wf_2 hW) (wf_100 hW) dX9_sillAt_18 ?_
        refine j_iload_n B dX9_sillAt_21 rfl 1 rfl ?_
        obtain ⟨b1, h⟩ := h_inb h
        refine j_aald B (wf_3 hW) (Or.inr (Or.inr rfl)) (wf_in5 hW b1) (wf_house hW b1) dX9_sillAt_22 ?_
        refine j_goto (tgt := 27) B dX9_sillAt_23 (by decide) ?_
        have e1 := Option.some.inj h
        subst e1
        exact j_aret B E rfl (Or.inr ⟨_, rfl⟩) dX9_sillAt_27 (Nat.le_refl _) (Nat.le_refl _) ⟨rfl, rfl, rfl, rfl⟩
theorem sillAt_is {sv : SV} {ns : Nat} {x1 : Int32} {vi0 : VI} {q : Nat} (hW : WF sv ns) (h : fX9_sillAt ns x1 vi0 = some (some q)) : isSill sv q := by
  unfold fX9_sillAt at h
  split at h
  · cases h
  split at h
  · cases h
  split at h
  · cases h
  obtain ⟨b, h⟩ := h_inb h
  cases h
  exact wf_sill hW b
def fX9_isWithin (x0 : Int32) (x1 : Int32)  : Option (Bool) := if x0 < 0 then some (false) else if x1 < x0 then some (false) else some (true)
theorem tX9_isWithin {G : GT} {sv : SV} {vi0 : VI} {vl0 : VL} {x0 : Int32} {x1 : Int32} {r : Bool} (h : fX9_isWithin x0 x1 = some (r)) : Call G mX9_isWithin 0 0 0 [.int x0, .int x1] sv vi0 vl0 (QI (b2i r) sv vi0 vl0) := by
  refine j_mk (by decide +kernel) (Nat.le_of_ble_eq_true rfl) (fun Γ B E => ?_)
  show J G Γ 0 0 0 [(0, .int x0), (1, .int x1)] [] sv vi0 vl0
  unfold fX9_isWithin at h
  refine j_iload_n B dX9_isWithin_0 rfl 0 rfl ?_
  refine j_if_lt (tgt := 13) B dX9_isWithin_1 (by decide) (fun c => ?_) (fun c => ?_)
  · replace h := h_pos c h
    refine j_iconst B dX9_isWithin_13 (v := 0) (by decide) ?_
    have e1 := Option.some.inj h
    subst e1
    exact j_zret B E rfl (Or.inl rfl) dX9_isWithin_14 (Nat.le_refl _) (Nat.le_refl _) ⟨rfl, rfl, rfl, rfl⟩
  · replace h := h_neg c h
    refine j_iload_n B dX9_isWithin_4 rfl 0 rfl ?_
    refine j_iload_n B dX9_isWithin_5 rfl 1 rfl ?_
    refine j_icmp_gt (tgt := 13) B dX9_isWithin_6 (by decide) (fun c => ?_) (fun c => ?_)
    · replace h := h_pos c h
      refine j_iconst B dX9_isWithin_13 (v := 0) (by decide) ?_
      have e1 := Option.some.inj h
      subst e1
      exact j_zret B E rfl (Or.inl rfl) dX9_isWithin_14 (Nat.le_refl _) (Nat.le_refl _) ⟨rfl, rfl, rfl, rfl⟩
    · replace h := h_neg c h
      refine j_iconst B dX9_isWithin_9 (v := 1) (by decide) ?_
      refine j_goto (tgt := 14) B dX9_isWithin_10 (by decide) ?_
      have e1 := Option.some.inj h
      subst e1
      exact j_zret B E rfl (Or.inr rfl) dX9_isWithin_14 (Nat.le_refl _) (Nat.le_refl _) ⟨rfl, rfl, rfl, rfl⟩
def fX9_isOne (x0 : Int32)  : Option (Bool) := (fX9_isWithin x0 5).bind fun r1 => some (r1)
theorem tX9_isOne {G : GT} {sv : SV} {vi0 : VI} {vl0 : VL} {x0 : Int32} {r : Bool} (h : fX9_isOne x0 = some (r)) : Call G mX9_isOne 1 0 0 [.int x0] sv vi0 vl0 (QI (b2i r) sv vi0 vl0) := by
  refine j_mk (by decide +kernel) (Nat.le_of_ble_eq_true rfl) (fun Γ B E => ?_)
  show J G Γ 0 0 0 [(0, .int x0)] [] sv vi0 vl0
  unfold fX9_isOne at h
  refine j_iload_n B dX9_isOne_0 rfl 0 rfl ?_
  refine j_iconst B dX9_isOne_1 (v := 5) (by decide) ?_
  obtain ⟨r1, hr1, h⟩ := h_bind h
  refine j_cSI (rest := []) B (tX9_isWithin hr1) jt_RX9_90 wst_X9_isWithin rfl (by decide) (Nat.le_refl _) (Nat.le_refl _) rfl (Nat.le_of_ble_eq_true rfl) dX9_isOne_2 ?_
  have z9 := b2i_or r1
  have e1 := Option.some.inj h
  subst e1
  exact j_zret B E rfl z9 dX9_isOne_5 (Nat.le_refl _) (Nat.le_refl _) ⟨rfl, rfl, rfl, rfl⟩
def fX9_isMendable (ns : Nat) (x1 : Int32) (x2 : Int32) (vi0 : VI) : Option (Bool) := if x2 = 0 then (fX9_sillAt ns x1 vi0).bind fun r1 => optS r1 (some (false)) fun q2 => some (true) else if x2 = 1 then (fX9_sillAt ns x1 vi0).bind fun r3 => optS r3 (some (false)) fun q4 => some (true) else if x2 = 2 then (fX9_isOne x1).bind fun r5 => some (r5) else if x2 = 3 then if x1 = 0 then some (true) else some (false) else some (false)
theorem tX9_isMendable {G : GT} {sv : SV} {vi0 : VI} {vl0 : VL} {ns : Nat} {x1 : Int32} {x2 : Int32} {r : Bool} (hW : WF sv ns) (h : fX9_isMendable ns x1 x2 vi0 = some (r)) : Call G mX9_isMendable 2 0 0 [.ref (G.1 + 0), .int x1, .int x2] sv vi0 vl0 (QI (b2i r) sv vi0 vl0) := by
  refine j_mk (by decide +kernel) (Nat.le_of_ble_eq_true rfl) (fun Γ B E => ?_)
  show J G Γ 0 0 0 [(0, .ref (G.1 + 0)), (1, .int x1), (2, .int x2)] [] sv vi0 vl0
  unfold fX9_isMendable at h
  refine j_iload_n B dX9_isMendable_0 rfl 2 rfl ?_
  by_cases c0 : x2 = 0
  · replace h := h_pos c0 h
    refine j_tableIn (off := 31) (tgt := 32) B dX9_isMendable_1 (by rw [c0]; decide) (by rw [c0]; decide) (by rw [c0]; decide) (by decide) ?_
    refine j_aload_n B dX9_isMendable_32 rfl 0 rfl ?_
    refine j_iload_n B dX9_isMendable_33 rfl 1 rfl ?_
    obtain ⟨r1, hr1, h⟩ := h_bind h
    refine j_cVN (rest := []) B (tX9_sillAt hW hr1) cls9 (wf_2 hW) jt_RX9_137 wi_X9_sillAt ws_X9_sillAt rfl (by decide) (Nat.le_refl _) (Nat.le_refl _) rfl (Nat.le_of_ble_eq_true rfl) dX9_isMendable_34 ?_
    rcases r1 with _ | q2
    · replace h := h_none h
      refine j_ifnullN (tgt := 44) B dX9_isMendable_37 (by decide) ?_
      refine j_iconst B dX9_isMendable_44 (v := 0) (by decide) ?_
      have e1 := Option.some.inj h
      subst e1
      exact j_zret B E rfl (Or.inl rfl) dX9_isMendable_45 (Nat.le_refl _) (Nat.le_refl _) ⟨rfl, rfl, rfl, rfl⟩
    · replace h := h_some h
      have is_q2 := sillAt_is hW hr1
      refine j_ifnull B dX9_isMendable_37 ?_
      refine j_iconst B dX9_isMendable_40 (v := 1) (by decide) ?_
      refine j_goto (tgt := 45) B dX9_isMendable_41 (by decide) ?_
      have e1 := Option.some.inj h
      subst e1
      exact j_zret B E rfl (Or.inr rfl) dX9_isMendable_45 (Nat.le_refl _) (Nat.le_refl _) ⟨rfl, rfl, rfl, rfl⟩
  replace h := h_neg c0 h
  by_cases c1 : x2 = 1
  · replace h := h_pos c1 h
    refine j_tableIn (off := 31) (tgt := 32) B dX9_isMendable_1 (by rw [c1]; decide) (by rw [c1]; decide) (by rw [c1]; decide) (by decide) ?_
    refine j_aload_n B dX9_isMendable_32 rfl 0 rfl ?_
    refine j_iload_n B dX9_isMendable_33 rfl 1 rfl ?_
    obtain ⟨r3, hr3, h⟩ := h_bind h
    refine j_cVN (rest := []) B (tX9_sillAt hW hr3) cls9 (wf_2 hW) jt_RX9_137 wi_X9_sillAt ws_X9_sillAt rfl (by decide) (Nat.le_refl _) (Nat.le_refl _) rfl (Nat.le_of_ble_eq_true rfl) dX9_isMendable_34 ?_
    rcases r3 with _ | q4
    · replace h := h_none h
      refine j_ifnullN (tgt := 44) B dX9_isMendable_37 (by decide) ?_
      refine j_iconst B dX9_isMendable_44 (v := 0) (by decide) ?_
      have e1 := Option.some.inj h
      subst e1
      exact j_zret B E rfl (Or.inl rfl) dX9_isMendable_45 (Nat.le_refl _) (Nat.le_refl _) ⟨rfl, rfl, rfl, rfl⟩
    · replace h := h_some h
      have is_q4 := sillAt_is hW hr3
      refine j_ifnull B dX9_isMendable_37 ?_
      refine j_iconst B dX9_isMendable_40 (v := 1) (by decide) ?_
      refine j_goto (tgt := 45) B dX9_isMendable_41 (by decide) ?_
      have e1 := Option.some.inj h
      subst e1
      exact j_zret B E rfl (Or.inr rfl) dX9_isMendable_45 (Nat.le_refl _) (Nat.le_refl _) ⟨rfl, rfl, rfl, rfl⟩
  replace h := h_neg c1 h
  by_cases c2 : x2 = 2
  · replace h := h_pos c2 h
    refine j_tableIn (off := 45) (tgt := 46) B dX9_isMendable_1 (by rw [c2]; decide) (by rw [c2]; decide) (by rw [c2]; decide) (by decide) ?_
    refine j_iload_n B dX9_isMendable_46 rfl 1 rfl ?_
    obtain ⟨r5, hr5, h⟩ := h_bind h
    refine j_cSI (rest := []) B (tX9_isOne hr5) jt_RX9_210 wst_X9_isOne rfl (by decide) (Nat.le_refl _) (Nat.le_refl _) rfl (Nat.le_of_ble_eq_true rfl) dX9_isMendable_47 ?_
    have z9 := b2i_or r5
    have e1 := Option.some.inj h
    subst e1
    exact j_zret B E rfl z9 dX9_isMendable_50 (Nat.le_refl _) (Nat.le_refl _) ⟨rfl, rfl, rfl, rfl⟩
  replace h := h_neg c2 h
  by_cases c3 : x2 = 3
  · replace h := h_pos c3 h
    refine j_tableIn (off := 50) (tgt := 51) B dX9_isMendable_1 (by rw [c3]; decide) (by rw [c3]; decide) (by rw [c3]; decide) (by decide) ?_
    refine j_iload_n B dX9_isMendable_51 rfl 1 rfl ?_
    refine j_if_ne (tgt := 59) B dX9_isMendable_52 (by decide) (fun c => ?_) (fun c => ?_)
    · replace h := h_neg c h
      refine j_iconst B dX9_isMendable_59 (v := 0) (by decide) ?_
      have e1 := Option.some.inj h
      subst e1
      exact j_zret B E rfl (Or.inl rfl) dX9_isMendable_60 (Nat.le_refl _) (Nat.le_refl _) ⟨rfl, rfl, rfl, rfl⟩
    · replace h := h_pos c h
      refine j_iconst B dX9_isMendable_55 (v := 1) (by decide) ?_
      refine j_goto (tgt := 60) B dX9_isMendable_56 (by decide) ?_
      have e1 := Option.some.inj h
      subst e1
      exact j_zret B E rfl (Or.inr rfl) dX9_isMendable_60 (Nat.le_refl _) (Nat.le_refl _) ⟨rfl, rfl, rfl, rfl⟩
  replace h := h_neg c3 h
  refine j_tableOut (tgt := 61) B dX9_isMendable_1 (by have n0 := lv_neT c0 (a := 0) (by decide); have n1 := lv_neT c1 (a := 1) (by decide); have n2 := lv_neT c2 (a := 2) (by decide); have n3 := lv_neT c3 (a := 3) (by decide); omega) (by decide) ?_
  refine j_iconst B dX9_isMendable_61 (v := 0) (by decide) ?_
  have e1 := Option.some.inj h
  subst e1
  exact j_zret B E rfl (Or.inl rfl) dX9_isMendable_62 (Nat.le_refl _) (Nat.le_refl _) ⟨rfl, rfl, rfl, rfl⟩
def fX9_numberOf (ns : Nat) (x1 : Int32) (x2 : Int32) (vi0 : VI) : Option (Int32) := (fX9_sillAt ns x1 vi0).bind fun r1 => optS r1 (if x2 = 0 then some ((-1)) else if x2 = 1 then some ((-1)) else if x2 = 2 then (fX9_isOne x1).bind fun r3 => if r3 = true then if inb x1 6 = true then some ((vi0 2 x1.toNatClampNeg)) else none else some ((-1)) else some ((vi0 5 2))) fun q2 => if x2 = 0 then some ((vi0 q2 3)) else if x2 = 1 then some ((vi0 q2 4)) else if x2 = 2 then (fX9_isOne x1).bind fun r5 => if r5 = true then if inb x1 6 = true then some ((vi0 2 x1.toNatClampNeg)) else none else some ((-1)) else some ((vi0 5 2))
theorem tX9_numberOf {G : GT} {sv : SV} {vi0 : VI} {vl0 : VL} {ns : Nat} {x1 : Int32} {x2 : Int32} {r : Int32} (hW : WF sv ns) (h : fX9_numberOf ns x1 x2 vi0 = some (r)) : Call G mX9_numberOf 2 0 0 [.ref (G.1 + 0), .int x1, .int x2] sv vi0 vl0 (QI r sv vi0 vl0) := by
  refine j_mk (by decide +kernel) (Nat.le_of_ble_eq_true rfl) (fun Γ B E => ?_)
  show J G Γ 0 0 0 [(0, .ref (G.1 + 0)), (1, .int x1), (2, .int x2)] [] sv vi0 vl0
  unfold fX9_numberOf at h
  refine j_aload_n B dX9_numberOf_0 rfl 0 rfl ?_
  refine j_iload_n B dX9_numberOf_1 rfl 1 rfl ?_
  obtain ⟨r1, hr1, h⟩ := h_bind h
  refine j_cVN (rest := []) B (tX9_sillAt hW hr1) cls9 (wf_2 hW) jt_RX9_137 wi_X9_sillAt ws_X9_sillAt rfl (by decide) (Nat.le_refl _) (Nat.le_refl _) rfl (Nat.le_of_ble_eq_true rfl) dX9_numberOf_2 ?_
  rcases r1 with _ | q2
  · replace h := h_none h
    refine j_astore_nN (L' := [(3, .null), (0, .ref (G.1 + 0)), (1, .int x1), (2, .int x2)]) B dX9_numberOf_5 rfl (by decide) rfl ?_
    refine j_iload_n B dX9_numberOf_6 rfl 3 rfl ?_
    by_cases c0 : x2 = 0
    · replace h := h_pos c0 h
      refine j_tableIn (off := 25) (tgt := 32) B dX9_numberOf_7 (by rw [c0]; decide) (by rw [c0]; decide) (by rw [c0]; decide) (by decide) ?_
      refine j_aloadN_n B dX9_numberOf_32 rfl 0 rfl ?_
      refine j_ifnonnullN B dX9_numberOf_33 ?_
      refine j_iconst B dX9_numberOf_36 (v := (-1)) (by decide) ?_
      refine j_goto (tgt := 44) B dX9_numberOf_37 (by decide) ?_
      have e1 := Option.some.inj h
      subst e1
      exact j_iret B E rfl dX9_numberOf_44 (Nat.le_refl _) (Nat.le_refl _) ⟨rfl, rfl, rfl, rfl⟩
    replace h := h_neg c0 h
    by_cases c1 : x2 = 1
    · replace h := h_pos c1 h
      refine j_tableIn (off := 38) (tgt := 45) B dX9_numberOf_7 (by rw [c1]; decide) (by rw [c1]; decide) (by rw [c1]; decide) (by decide) ?_
      refine j_aloadN_n B dX9_numberOf_45 rfl 0 rfl ?_
      refine j_ifnonnullN B dX9_numberOf_46 ?_
      refine j_iconst B dX9_numberOf_49 (v := (-1)) (by decide) ?_
      refine j_goto (tgt := 57) B dX9_numberOf_50 (by decide) ?_
      have e1 := Option.some.inj h
      subst e1
      exact j_iret B E rfl dX9_numberOf_57 (Nat.le_refl _) (Nat.le_refl _) ⟨rfl, rfl, rfl, rfl⟩
    replace h := h_neg c1 h
    by_cases c2 : x2 = 2
    · replace h := h_pos c2 h
      refine j_tableIn (off := 51) (tgt := 58) B dX9_numberOf_7 (by rw [c2]; decide) (by rw [c2]; decide) (by rw [c2]; decide) (by decide) ?_
      refine j_iload_n B dX9_numberOf_58 rfl 2 rfl ?_
      obtain ⟨r3, hr3, h⟩ := h_bind h
      refine j_cSI (rest := []) B (tX9_isOne hr3) jt_RX9_210 wst_X9_isOne rfl (by decide) (Nat.le_refl _) (Nat.le_refl _) rfl (Nat.le_of_ble_eq_true rfl) dX9_numberOf_59 ?_
      refine j_if_eq (tgt := 74) B dX9_numberOf_62 (by decide) (fun c => ?_) (fun c => ?_)
      · replace h := h_neg (b2i_0 c) h
        refine j_iconst B dX9_numberOf_74 (v := (-1)) (by decide) ?_
        have e1 := Option.some.inj h
        subst e1
        exact j_iret B E rfl dX9_numberOf_75 (Nat.le_refl _) (Nat.le_refl _) ⟨rfl, rfl, rfl, rfl⟩
      · replace h := h_pos (b2i_1 c) h
        refine j_aload_n B dX9_numberOf_65 rfl 1 rfl ?_
        refine gf_RX9_15 B rfl (wf_2 hW) (wf_101 hW) dX9_numberOf_66 ?_
        refine j_iload_n B dX9_numberOf_69 rfl 2 rfl ?_
        obtain ⟨b4, h⟩ := h_inb h
        refine j_iald B ((wf_4 hW)) b4 dX9_numberOf_70 ?_
        refine j_goto (tgt := 75) B dX9_numberOf_71 (by decide) ?_
        have e1 := Option.some.inj h
        subst e1
        exact j_iret B E rfl dX9_numberOf_75 (Nat.le_refl _) (Nat.le_refl _) ⟨rfl, rfl, rfl, rfl⟩
    replace h := h_neg c2 h
    refine j_tableOut (tgt := 76) B dX9_numberOf_7 (by have n0 := lv_neT c0 (a := 0) (by decide); have n1 := lv_neT c1 (a := 1) (by decide); have n2 := lv_neT c2 (a := 2) (by decide); omega) (by decide) ?_
    refine j_aload_n B dX9_numberOf_76 rfl 1 rfl ?_
    refine gf_RX9_29 B rfl (wf_2 hW) (wf_104 hW) dX9_numberOf_77 ?_
    refine gf_RX9_361 B rfl (wf_7 hW) dX9_numberOf_80 ?_
    have e1 := Option.some.inj h
    subst e1
    exact j_iret B E rfl dX9_numberOf_83 (Nat.le_refl _) (Nat.le_refl _) ⟨rfl, rfl, rfl, rfl⟩
  · replace h := h_some h
    have is_q2 := sillAt_is hW hr1
    refine j_astore_n (L' := [(3, .ref (G.1 + q2)), (0, .ref (G.1 + 0)), (1, .int x1), (2, .int x2)]) B dX9_numberOf_5 rfl (by decide) rfl ?_
    refine j_iload_n B dX9_numberOf_6 rfl 3 rfl ?_
    by_cases c0 : x2 = 0
    · replace h := h_pos c0 h
      refine j_tableIn (off := 25) (tgt := 32) B dX9_numberOf_7 (by rw [c0]; decide) (by rw [c0]; decide) (by rw [c0]; decide) (by decide) ?_
      refine j_aload_n B dX9_numberOf_32 rfl 0 rfl ?_
      refine j_ifnonnull (tgt := 40) B dX9_numberOf_33 (by decide) ?_
      refine j_aload_n B dX9_numberOf_40 rfl 0 rfl ?_
      refine gf_RX9_355 B rfl ((is_q2).1) dX9_numberOf_41 ?_
      have e1 := Option.some.inj h
      subst e1
      exact j_iret B E rfl dX9_numberOf_44 (Nat.le_refl _) (Nat.le_refl _) ⟨rfl, rfl, rfl, rfl⟩
    replace h := h_neg c0 h
    by_cases c1 : x2 = 1
    · replace h := h_pos c1 h
      refine j_tableIn (off := 38) (tgt := 45) B dX9_numberOf_7 (by rw [c1]; decide) (by rw [c1]; decide) (by rw [c1]; decide) (by decide) ?_
      refine j_aload_n B dX9_numberOf_45 rfl 0 rfl ?_
      refine j_ifnonnull (tgt := 53) B dX9_numberOf_46 (by decide) ?_
      refine j_aload_n B dX9_numberOf_53 rfl 0 rfl ?_
      refine gf_RX9_358 B rfl ((is_q2).1) dX9_numberOf_54 ?_
      have e1 := Option.some.inj h
      subst e1
      exact j_iret B E rfl dX9_numberOf_57 (Nat.le_refl _) (Nat.le_refl _) ⟨rfl, rfl, rfl, rfl⟩
    replace h := h_neg c1 h
    by_cases c2 : x2 = 2
    · replace h := h_pos c2 h
      refine j_tableIn (off := 51) (tgt := 58) B dX9_numberOf_7 (by rw [c2]; decide) (by rw [c2]; decide) (by rw [c2]; decide) (by decide) ?_
      refine j_iload_n B dX9_numberOf_58 rfl 2 rfl ?_
      obtain ⟨r5, hr5, h⟩ := h_bind h
      refine j_cSI (rest := []) B (tX9_isOne hr5) jt_RX9_210 wst_X9_isOne rfl (by decide) (Nat.le_refl _) (Nat.le_refl _) rfl (Nat.le_of_ble_eq_true rfl) dX9_numberOf_59 ?_
      refine j_if_eq (tgt := 74) B dX9_numberOf_62 (by decide) (fun c => ?_) (fun c => ?_)
      · replace h := h_neg (b2i_0 c) h
        refine j_iconst B dX9_numberOf_74 (v := (-1)) (by decide) ?_
        have e1 := Option.some.inj h
        subst e1
        exact j_iret B E rfl dX9_numberOf_75 (Nat.le_refl _) (Nat.le_refl _) ⟨rfl, rfl, rfl, rfl⟩
      · replace h := h_pos (b2i_1 c) h
        refine j_aload_n B dX9_numberOf_65 rfl 1 rfl ?_
        refine gf_RX9_15 B rfl (wf_2 hW) (wf_101 hW) dX9_numberOf_66 ?_
        refine j_iload_n B dX9_numberOf_69 rfl 2 rfl ?_
        obtain ⟨b6, h⟩ := h_inb h
        refine j_iald B ((wf_4 hW)) b6 dX9_numberOf_70 ?_
        refine j_goto (tgt := 75) B dX9_numberOf_71 (by decide) ?_
        have e1 := Option.some.inj h
        subst e1
        exact j_iret B E rfl dX9_numberOf_75 (Nat.le_refl _) (Nat.le_refl _) ⟨rfl, rfl, rfl, rfl⟩
    replace h := h_neg c2 h
    refine j_tableOut (tgt := 76) B dX9_numberOf_7 (by have n0 := lv_neT c0 (a := 0) (by decide); have n1 := lv_neT c1 (a := 1) (by decide); have n2 := lv_neT c2 (a := 2) (by decide); omega) (by decide) ?_
    refine j_aload_n B dX9_numberOf_76 rfl 1 rfl ?_
    refine gf_RX9_29 B rfl (wf_2 hW) (wf_104 hW) dX9_numberOf_77 ?_
    refine gf_RX9_361 B rfl (wf_7 hW) dX9_numberOf_80 ?_
    have e1 := Option.some.inj h
    subst e1
    exact j_iret B E rfl dX9_numberOf_83 (Nat.le_refl _) (Nat.le_refl _) ⟨rfl, rfl, rfl, rfl⟩
def fX9_forgetAll_2 (ns : Nat) : Nat → Int32 → VI → Option (VI)
  | 0, _, _ => none
  | F + 1, x1, vi => if (vi 0 1) ≤ x1 then some (vi) else if inb x1 ns = true then (fX7_forget (98 + 5 * x1.toNatClampNeg) vi).bind fun r2 => fX9_forgetAll_2 ns F (x1 + 1) r2 else none
theorem tX9_forgetAll_2 {G : GT} {sv : SV} {vl0 : VL} {ns : Nat} {Γ : CT} {vi' : VI} (B : Base G Γ mX9_forgetAll 2 0 0) (E : Ends G Γ 0 0 (QV sv vi' vl0)) (hW : WF sv ns) : ∀ (F : Nat) (x1 : Int32) (vi : VI), fX9_forgetAll_2 ns F x1 vi = some (vi') → J G Γ 0 0 2 [(0, .ref (G.1 + 0)), (1, .int x1)] [] sv vi vl0 := by
  intro F
  induction F with
  | zero =>
    intro x1 vi  h
    cases (show (none : Option (VI)) = some (vi') from h)
  | succ F ih =>
    intro x1 vi  h
    rw [fX9_forgetAll_2] at h
    refine j_iload_n B dX9_forgetAll_2 rfl 1 rfl ?_
    refine j_aload_n B dX9_forgetAll_3 rfl 0 rfl ?_
    refine gf_RX9_94 B rfl (wf_2 hW) dX9_forgetAll_4 ?_
    refine j_icmp_ge (tgt := 25) B dX9_forgetAll_7 (by decide) (fun c => ?_) (fun c => ?_)
    · replace h := h_pos c h
      have e1 := Option.some.inj h
      subst e1
      exact j_vret B E rfl dX9_forgetAll_25 (Nat.le_refl _) (Nat.le_refl _) ⟨rfl, rfl, rfl, rfl⟩
    · replace h := h_neg c h
      refine j_aload_n B dX9_forgetAll_10 rfl 0 rfl ?_
      refine gf_RX9_11 B rfl (wf_2 hW) (wf_100 hW) dX9_forgetAll_11 ?_
      refine j_iload_n B dX9_forgetAll_14 rfl 1 rfl ?_
      obtain ⟨b1, h⟩ := h_inb h
      refine j_aald B (wf_3 hW) (Or.inr (Or.inr rfl)) (wf_in5 hW b1) (wf_house hW b1) dX9_forgetAll_15 ?_
      obtain ⟨r2, hr2, h⟩ := h_bind h
      refine j_cVV (rest := []) B (tX7_forget (wf_sill hW b1) hr2) cls7 ((wf_sill hW b1).1) jt_RX9_367 wi_X7_forget ws_X7_forget rfl (by decide) (Nat.le_refl _) (Nat.le_refl _) rfl (Nat.le_of_ble_eq_true rfl) dX9_forgetAll_16 ?_
      refine j_iinc (v := (x1 + 1)) (L' := [(1, .int (x1 + 1)), (0, .ref (G.1 + 0))]) B dX9_forgetAll_19 1 rfl rfl (by decide) rfl ?_
      refine j_goto (tgt := 2) B dX9_forgetAll_22 (by decide) ?_
      refine j_locals [1, 0] rfl ?_
      exact ih ((x1 + 1)) (r2)  h
def fX9_forgetAll (ns : Nat) (vi0 : VI) : Option (VI) := fX9_forgetAll_2 ns FU 0 vi0
theorem tX9_forgetAll {G : GT} {sv : SV} {vi0 : VI} {vl0 : VL} {ns : Nat} {vi' : VI} (hW : WF sv ns) (h : fX9_forgetAll ns vi0 = some (vi')) : Call G mX9_forgetAll 2 0 0 [.ref (G.1 + 0)] sv vi0 vl0 (QV sv vi' vl0) := by
  refine j_mk (by decide +kernel) (Nat.le_of_ble_eq_true rfl) (fun Γ B E => ?_)
  show J G Γ 0 0 0 [(0, .ref (G.1 + 0))] [] sv vi0 vl0
  unfold fX9_forgetAll at h
  refine j_iconst B dX9_forgetAll_0 (v := 0) (by decide) ?_
  refine j_istore_n (L' := [(1, .int 0), (0, .ref (G.1 + 0))]) B dX9_forgetAll_1 rfl (by decide) rfl ?_
  refine j_locals [1, 0] rfl ?_
  exact tX9_forgetAll_2 B E hW FU (0) (vi0)  h
def fX9_setSill_27 (x0 : Nat) (vi : VI) : Option (VI) := (fX7_forget x0 vi).bind fun r1 => some (r1)
theorem tX9_setSill_27 {G : GT} {sv : SV} {vl0 : VL} {Γ : CT} {x0 : Nat} {vi' : VI} (B : Base G Γ mX9_setSill 2 0 0) (E : Ends G Γ 0 0 (QV sv vi' vl0)) (h0 : isSill sv x0) : ∀ (vi : VI), fX9_setSill_27 x0 vi = some (vi') → J G Γ 0 0 27 [(0, .ref (G.1 + x0))] [] sv vi vl0 := by
  intro vi  h
  unfold fX9_setSill_27 at h
  refine j_aload_n B dX9_setSill_27 rfl 0 rfl ?_
  obtain ⟨r1, hr1, h⟩ := h_bind h
  refine j_cVV (rest := []) B (tX7_forget (h0) hr1) cls7 ((h0).1) jt_RX9_367 wi_X7_forget ws_X7_forget rfl (by decide) (Nat.le_refl _) (Nat.le_refl _) rfl (Nat.le_of_ble_eq_true rfl) dX9_setSill_28 ?_
  have e1 := Option.some.inj h
  subst e1
  exact j_vret B E rfl dX9_setSill_31 (Nat.le_refl _) (Nat.le_refl _) ⟨rfl, rfl, rfl, rfl⟩
def fX9_setSill (x0 : Nat) (x1 : Int32) (x2 : Int32) (vi0 : VI) : Option (VI) := if x1 = 0 then fX9_setSill_27 x0 (j_up vi0 x0 3 x2) else if x1 = 1 then fX9_setSill_27 x0 (j_up vi0 x0 4 x2) else fX9_setSill_27 x0 vi0
theorem tX9_setSill {G : GT} {sv : SV} {vi0 : VI} {vl0 : VL} {x0 : Nat} {x1 : Int32} {x2 : Int32} {vi' : VI} (h0 : isSill sv x0) (h : fX9_setSill x0 x1 x2 vi0 = some (vi')) : Call G mX9_setSill 2 0 0 [.ref (G.1 + x0), .int x1, .int x2] sv vi0 vl0 (QV sv vi' vl0) := by
  refine j_mk (by decide +kernel) (Nat.le_of_ble_eq_true rfl) (fun Γ B E => ?_)
  show J G Γ 0 0 0 [(0, .ref (G.1 + x0)), (1, .int x1), (2, .int x2)] [] sv vi0 vl0
  unfold fX9_setSill at h
  refine j_aload_n B dX9_setSill_0 rfl 0 rfl ?_
  refine j_ifnonnull (tgt := 5) B dX9_setSill_1 (by decide) ?_
  refine j_iload_n B dX9_setSill_5 rfl 1 rfl ?_
  refine j_if_ne (tgt := 17) B dX9_setSill_6 (by decide) (fun c => ?_) (fun c => ?_)
  · replace h := h_neg c h
    refine j_iload_n B dX9_setSill_17 rfl 1 rfl ?_
    refine j_iconst B dX9_setSill_18 (v := 1) (by decide) ?_
    refine j_icmp_ne (tgt := 27) B dX9_setSill_19 (by decide) (fun c => ?_) (fun c => ?_)
    · replace h := h_neg c h
      refine j_locals [0] rfl ?_
      exact tX9_setSill_27 B E h0 (vi0)  h
    · replace h := h_pos c h
      refine j_aload_n B dX9_setSill_22 rfl 0 rfl ?_
      refine j_iload_n B dX9_setSill_23 rfl 2 rfl ?_
      refine pf_RX9_358 B rfl ((h0).1) dX9_setSill_24 ?_
      refine j_locals [0] rfl ?_
      exact tX9_setSill_27 B E h0 ((j_up vi0 x0 4 x2))  h
  · replace h := h_pos c h
    refine j_aload_n B dX9_setSill_9 rfl 0 rfl ?_
    refine j_iload_n B dX9_setSill_10 rfl 2 rfl ?_
    refine pf_RX9_355 B rfl ((h0).1) dX9_setSill_11 ?_
    refine j_goto (tgt := 27) B dX9_setSill_14 (by decide) ?_
    refine j_locals [0] rfl ?_
    exact tX9_setSill_27 B E h0 ((j_up vi0 x0 3 x2))  h
def fX9_setSill0 (x1 : Int32) (x2 : Int32) (vi0 : VI) : Option (VI) := some (vi0)
theorem tX9_setSill0 {G : GT} {sv : SV} {vi0 : VI} {vl0 : VL} {x1 : Int32} {x2 : Int32} {vi' : VI} (h : fX9_setSill0 x1 x2 vi0 = some (vi')) : Call G mX9_setSill 2 0 0 [.null, .int x1, .int x2] sv vi0 vl0 (QV sv vi' vl0) := by
  refine j_mk (by decide +kernel) (Nat.le_of_ble_eq_true rfl) (fun Γ B E => ?_)
  show J G Γ 0 0 0 [(0, .null), (1, .int x1), (2, .int x2)] [] sv vi0 vl0
  unfold fX9_setSill0 at h
  refine j_aloadN_n B dX9_setSill_0 rfl 0 rfl ?_
  refine j_ifnonnullN B dX9_setSill_1 ?_
  have e1 := Option.some.inj h
  subst e1
  exact j_vret B E rfl dX9_setSill_4 (Nat.le_refl _) (Nat.le_refl _) ⟨rfl, rfl, rfl, rfl⟩
def fX9_setNumber_42 (ns : Nat) (x1 : Int32) (x2 : Int32) (x3 : Int32) (vi : VI) : Option (VI) := (fX9_sillAt ns x1 vi).bind fun r1 => optS r1 ((fX9_setSill0 x2 x3 vi).bind fun r3 => some (r3)) fun q2 => (fX9_setSill q2 x2 x3 vi).bind fun r4 => some (r4)
theorem tX9_setNumber_42 {G : GT} {sv : SV} {vl0 : VL} {ns : Nat} {Γ : CT} {vi' : VI} (B : Base G Γ mX9_setNumber 3 0 0) (E : Ends G Γ 0 0 (QV sv vi' vl0)) (hW : WF sv ns) : ∀ (x1 : Int32) (x2 : Int32) (x3 : Int32) (vi : VI), fX9_setNumber_42 ns x1 x2 x3 vi = some (vi') → J G Γ 0 0 42 [(0, .ref (G.1 + 0)), (1, .int x1), (2, .int x2), (3, .int x3)] [] sv vi vl0 := by
  intro x1 x2 x3 vi  h
  unfold fX9_setNumber_42 at h
  refine j_aload_n B dX9_setNumber_42 rfl 0 rfl ?_
  refine j_iload_n B dX9_setNumber_43 rfl 1 rfl ?_
  obtain ⟨r1, hr1, h⟩ := h_bind h
  refine j_cVN (rest := []) B (tX9_sillAt hW hr1) cls9 (wf_2 hW) jt_RX9_137 wi_X9_sillAt ws_X9_sillAt rfl (by decide) (Nat.le_refl _) (Nat.le_refl _) rfl (Nat.le_of_ble_eq_true rfl) dX9_setNumber_44 ?_
  rcases r1 with _ | q2
  · replace h := h_none h
    refine j_iload_n B dX9_setNumber_47 rfl 2 rfl ?_
    refine j_iload_n B dX9_setNumber_48 rfl 3 rfl ?_
    obtain ⟨r3, hr3, h⟩ := h_bind h
    refine j_cSV (rest := []) B (tX9_setSill0 hr3) jt_RX9_364 wst_X9_setSill rfl (by decide) (Nat.le_refl _) (Nat.le_refl _) rfl (Nat.le_of_ble_eq_true rfl) dX9_setNumber_49 ?_
    have e1 := Option.some.inj h
    subst e1
    exact j_vret B E rfl dX9_setNumber_52 (Nat.le_refl _) (Nat.le_refl _) ⟨rfl, rfl, rfl, rfl⟩
  · replace h := h_some h
    have is_q2 := sillAt_is hW hr1
    refine j_iload_n B dX9_setNumber_47 rfl 2 rfl ?_
    refine j_iload_n B dX9_setNumber_48 rfl 3 rfl ?_
    obtain ⟨r4, hr4, h⟩ := h_bind h
    refine j_cSV (rest := []) B (tX9_setSill (is_q2) hr4) jt_RX9_364 wst_X9_setSill rfl (by decide) (Nat.le_refl _) (Nat.le_refl _) rfl (Nat.le_of_ble_eq_true rfl) dX9_setNumber_49 ?_
    have e1 := Option.some.inj h
    subst e1
    exact j_vret B E rfl dX9_setNumber_52 (Nat.le_refl _) (Nat.le_refl _) ⟨rfl, rfl, rfl, rfl⟩
def fX9_setNumber (ns : Nat) (x1 : Int32) (x2 : Int32) (x3 : Int32) (vi0 : VI) : Option (VI) := if x2 = 3 then (fX9_forgetAll ns (j_up vi0 5 2 x3)).bind fun r7 => some (r7) else if x2 = 2 then (fX9_isOne x1).bind fun r5 => if r5 = true then if inb x1 6 = true then some ((j_up vi0 2 x1.toNatClampNeg x3)) else none else fX9_setNumber_42 ns x1 x2 x3 vi0 else fX9_setNumber_42 ns x1 x2 x3 vi0
theorem tX9_setNumber {G : GT} {sv : SV} {vi0 : VI} {vl0 : VL} {ns : Nat} {x1 : Int32} {x2 : Int32} {x3 : Int32} {vi' : VI} (hW : WF sv ns) (h : fX9_setNumber ns x1 x2 x3 vi0 = some (vi')) : Call G mX9_setNumber 3 0 0 [.ref (G.1 + 0), .int x1, .int x2, .int x3] sv vi0 vl0 (QV sv vi' vl0) := by
  refine j_mk (by decide +kernel) (Nat.le_of_ble_eq_true rfl) (fun Γ B E => ?_)
  show J G Γ 0 0 0 [(0, .ref (G.1 + 0)), (1, .int x1), (2, .int x2), (3, .int x3)] [] sv vi0 vl0
  unfold fX9_setNumber at h
  refine j_iload_n B dX9_setNumber_0 rfl 2 rfl ?_
  refine j_iconst B dX9_setNumber_1 (v := 3) (by decide) ?_
  refine j_icmp_ne (tgt := 20) B dX9_setNumber_2 (by decide) (fun c => ?_) (fun c => ?_)
  · replace h := h_neg c h
    refine j_iload_n B dX9_setNumber_20 rfl 2 rfl ?_
    refine j_iconst B dX9_setNumber_21 (v := 2) (by decide) ?_
    refine j_icmp_ne (tgt := 42) B dX9_setNumber_22 (by decide) (fun c => ?_) (fun c => ?_)
    · replace h := h_neg c h
      refine j_locals [0, 1, 2, 3] rfl ?_
      exact tX9_setNumber_42 B E hW (x1) (x2) (x3) (vi0)  h
    · replace h := h_pos c h
      refine j_iload_n B dX9_setNumber_25 rfl 1 rfl ?_
      obtain ⟨r5, hr5, h⟩ := h_bind h
      refine j_cSI (rest := []) B (tX9_isOne hr5) jt_RX9_210 wst_X9_isOne rfl (by decide) (Nat.le_refl _) (Nat.le_refl _) rfl (Nat.le_of_ble_eq_true rfl) dX9_setNumber_26 ?_
      refine j_if_eq (tgt := 42) B dX9_setNumber_29 (by decide) (fun c => ?_) (fun c => ?_)
      · replace h := h_neg (b2i_0 c) h
        refine j_locals [0, 1, 2, 3] rfl ?_
        exact tX9_setNumber_42 B E hW (x1) (x2) (x3) (vi0)  h
      · replace h := h_pos (b2i_1 c) h
        refine j_aload_n B dX9_setNumber_32 rfl 0 rfl ?_
        refine gf_RX9_15 B rfl (wf_2 hW) (wf_101 hW) dX9_setNumber_33 ?_
        refine j_iload_n B dX9_setNumber_36 rfl 1 rfl ?_
        refine j_iload_n B dX9_setNumber_37 rfl 3 rfl ?_
        obtain ⟨b6, h⟩ := h_inb h
        refine j_iast B ((wf_4 hW)) b6 dX9_setNumber_38 ?_
        refine j_goto (tgt := 52) B dX9_setNumber_39 (by decide) ?_
        have e1 := Option.some.inj h
        subst e1
        exact j_vret B E rfl dX9_setNumber_52 (Nat.le_refl _) (Nat.le_refl _) ⟨rfl, rfl, rfl, rfl⟩
  · replace h := h_pos c h
    refine j_aload_n B dX9_setNumber_5 rfl 0 rfl ?_
    refine gf_RX9_29 B rfl (wf_2 hW) (wf_104 hW) dX9_setNumber_6 ?_
    refine j_iload_n B dX9_setNumber_9 rfl 3 rfl ?_
    refine pf_RX9_361 B rfl (wf_7 hW) dX9_setNumber_10 ?_
    refine j_aload_n B dX9_setNumber_13 rfl 0 rfl ?_
    obtain ⟨r7, hr7, h⟩ := h_bind h
    refine j_cVV (rest := []) B (tX9_forgetAll hW hr7) cls9 (wf_2 hW) jt_RX9_168 wi_X9_forgetAll ws_X9_forgetAll rfl (by decide) (Nat.le_refl _) (Nat.le_refl _) rfl (Nat.le_of_ble_eq_true rfl) dX9_setNumber_14 ?_
    refine j_goto (tgt := 52) B dX9_setNumber_17 (by decide) ?_
    have e1 := Option.some.inj h
    subst e1
    exact j_vret B E rfl dX9_setNumber_52 (Nat.le_refl _) (Nat.le_refl _) ⟨rfl, rfl, rfl, rfl⟩
def fX9_mend_21 (ns : Nat) (x1 : Int32) (x2 : Int32) (x3 : Int32) (s0 : Int32) (s1 : Int32) (vi : VI) : Option (Int32 × VI) := (fX9_isWithin s0 s1).bind fun r2 => if r2 = true then (fX9_numberOf ns x1 x2 vi).bind fun r3 => if r3 = x3 then some (r3, vi) else (fX1_keepNew x1 x2 r3 x3 vi).bind fun r4 => (fX9_setNumber ns x1 x2 x3 r4).bind fun r5 => some (r3, r5) else some ((-1), vi)
theorem tX9_mend_21 {G : GT} {sv : SV} {vl0 : VL} {ns : Nat} {Γ : CT} {r : Int32} {vi' : VI} (B : Base G Γ mX9_mend 4 0 0) (E : Ends G Γ 0 0 (QI r sv vi' vl0)) (hW : WF sv ns) : ∀ (x1 : Int32) (x2 : Int32) (x3 : Int32) (s0 : Int32) (s1 : Int32) (vi : VI), fX9_mend_21 ns x1 x2 x3 s0 s1 vi = some (r, vi') → J G Γ 0 0 21 [(0, .ref (G.1 + 0)), (1, .int x1), (2, .int x2), (3, .int x3)] [.int s1, .int s0] sv vi vl0 := by
  intro x1 x2 x3 s0 s1 vi  h
  unfold fX9_mend_21 at h
  obtain ⟨r2, hr2, h⟩ := h_bind h
  refine j_cSI (rest := []) B (tX9_isWithin hr2) jt_RX9_90 wst_X9_isWithin rfl (by decide) (Nat.le_refl _) (Nat.le_refl _) rfl (Nat.le_of_ble_eq_true rfl) dX9_mend_21 ?_
  refine j_if_ne (tgt := 29) B dX9_mend_24 (by decide) (fun c => ?_) (fun c => ?_)
  · replace h := h_pos (b2i_1 c) h
    refine j_aload_n B dX9_mend_29 rfl 0 rfl ?_
    refine j_iload_n B dX9_mend_30 rfl 1 rfl ?_
    refine j_iload_n B dX9_mend_31 rfl 2 rfl ?_
    obtain ⟨r3, hr3, h⟩ := h_bind h
    refine j_cVI (rest := []) B (tX9_numberOf hW hr3) cls9 (wf_2 hW) jt_RX9_126 wi_X9_numberOf ws_X9_numberOf rfl (by decide) (Nat.le_refl _) (Nat.le_refl _) rfl (Nat.le_of_ble_eq_true rfl) dX9_mend_32 ?_
    refine j_istore (L' := [(4, .int r3), (0, .ref (G.1 + 0)), (1, .int x1), (2, .int x2), (3, .int x3)]) B dX9_mend_35 (by decide) rfl ?_
    refine j_iload B dX9_mend_37 0 rfl ?_
    refine j_iload_n B dX9_mend_39 rfl 4 rfl ?_
    refine j_icmp_eq (tgt := 62) B dX9_mend_40 (by decide) (fun c => ?_) (fun c => ?_)
    · replace h := h_pos c h
      refine j_iload B dX9_mend_62 0 rfl ?_
      obtain ⟨e1, e2⟩ := Prod.mk.inj (Option.some.inj h)
      subst e1
      subst e2
      exact j_iret B E rfl dX9_mend_64 (Nat.le_refl _) (Nat.le_refl _) ⟨rfl, rfl, rfl, rfl⟩
    · replace h := h_neg c h
      refine j_aload_n B dX9_mend_43 rfl 1 rfl ?_
      refine gf_RX9_66 B rfl (wf_2 hW) (wf_141 hW) dX9_mend_44 ?_
      refine j_iload_n B dX9_mend_47 rfl 2 rfl ?_
      refine j_iload_n B dX9_mend_48 rfl 3 rfl ?_
      refine j_iload B dX9_mend_49 0 rfl ?_
      refine j_iload_n B dX9_mend_51 rfl 4 rfl ?_
      obtain ⟨r4, hr4, h⟩ := h_bind h
      refine j_cVV (rest := []) B (tX1_keepNew hW hr4) cls1 (wf_44 hW) jt_RX9_129 wi_X1_keepNew ws_X1_keepNew rfl (by decide) (Nat.le_refl _) (Nat.le_refl _) rfl (Nat.le_of_ble_eq_true rfl) dX9_mend_52 ?_
      refine j_aload_n B dX9_mend_55 rfl 1 rfl ?_
      refine j_iload_n B dX9_mend_56 rfl 2 rfl ?_
      refine j_iload_n B dX9_mend_57 rfl 3 rfl ?_
      refine j_iload_n B dX9_mend_58 rfl 4 rfl ?_
      obtain ⟨r5, hr5, h⟩ := h_bind h
      refine j_cVV (rest := []) B (tX9_setNumber hW hr5) cls9 (wf_2 hW) jt_RX9_133 wi_X9_setNumber ws_X9_setNumber rfl (by decide) (Nat.le_refl _) (Nat.le_refl _) rfl (Nat.le_of_ble_eq_true rfl) dX9_mend_59 ?_
      refine j_iload B dX9_mend_62 0 rfl ?_
      obtain ⟨e1, e2⟩ := Prod.mk.inj (Option.some.inj h)
      subst e1
      subst e2
      exact j_iret B E rfl dX9_mend_64 (Nat.le_refl _) (Nat.le_refl _) ⟨rfl, rfl, rfl, rfl⟩
  · replace h := h_neg (b2i_0 c) h
    refine j_iconst B dX9_mend_27 (v := (-1)) (by decide) ?_
    obtain ⟨e1, e2⟩ := Prod.mk.inj (Option.some.inj h)
    subst e1
    subst e2
    exact j_iret B E rfl dX9_mend_28 (Nat.le_refl _) (Nat.le_refl _) ⟨rfl, rfl, rfl, rfl⟩
def fX9_mend (ns : Nat) (x1 : Int32) (x2 : Int32) (x3 : Int32) (vi0 : VI) : Option (Int32 × VI) := (fX9_isMendable ns x1 x2 vi0).bind fun r1 => if r1 = true then if x2 = 3 then fX9_mend_21 ns x1 x2 x3 x3 3 vi0 else fX9_mend_21 ns x1 x2 x3 x3 9 vi0 else some ((-1), vi0)
theorem tX9_mend {G : GT} {sv : SV} {vi0 : VI} {vl0 : VL} {ns : Nat} {x1 : Int32} {x2 : Int32} {x3 : Int32} {r : Int32} {vi' : VI} (hW : WF sv ns) (h : fX9_mend ns x1 x2 x3 vi0 = some (r, vi')) : Call G mX9_mend 4 0 0 [.ref (G.1 + 0), .int x1, .int x2, .int x3] sv vi0 vl0 (QI r sv vi' vl0) := by
  refine j_mk (by decide +kernel) (Nat.le_of_ble_eq_true rfl) (fun Γ B E => ?_)
  show J G Γ 0 0 0 [(0, .ref (G.1 + 0)), (1, .int x1), (2, .int x2), (3, .int x3)] [] sv vi0 vl0
  unfold fX9_mend at h
  refine j_aload_n B dX9_mend_0 rfl 0 rfl ?_
  refine j_iload_n B dX9_mend_1 rfl 1 rfl ?_
  refine j_iload_n B dX9_mend_2 rfl 2 rfl ?_
  obtain ⟨r1, hr1, h⟩ := h_bind h
  refine j_cVI (rest := []) B (tX9_isMendable hW hr1) cls9 (wf_2 hW) jt_RX9_123 wi_X9_isMendable ws_X9_isMendable rfl (by decide) (Nat.le_refl _) (Nat.le_refl _) rfl (Nat.le_of_ble_eq_true rfl) dX9_mend_3 ?_
  refine j_if_eq (tgt := 27) B dX9_mend_6 (by decide) (fun c => ?_) (fun c => ?_)
  · replace h := h_neg (b2i_0 c) h
    refine j_iconst B dX9_mend_27 (v := (-1)) (by decide) ?_
    obtain ⟨e1, e2⟩ := Prod.mk.inj (Option.some.inj h)
    subst e1
    subst e2
    exact j_iret B E rfl dX9_mend_28 (Nat.le_refl _) (Nat.le_refl _) ⟨rfl, rfl, rfl, rfl⟩
  · replace h := h_pos (b2i_1 c) h
    refine j_iload_n B dX9_mend_9 rfl 3 rfl ?_
    refine j_iload_n B dX9_mend_10 rfl 2 rfl ?_
    refine j_iconst B dX9_mend_11 (v := 3) (by decide) ?_
    refine j_icmp_ne (tgt := 19) B dX9_mend_12 (by decide) (fun c => ?_) (fun c => ?_)
    · replace h := h_neg c h
      refine j_bipush B dX9_mend_19 (v := 9) (by decide) ?_
      refine j_locals [0, 1, 2, 3] rfl ?_
      exact tX9_mend_21 B E hW (x1) (x2) (x3) (x3) (9) (vi0)  h
    · replace h := h_pos c h
      refine j_iconst B dX9_mend_15 (v := 3) (by decide) ?_
      refine j_goto (tgt := 21) B dX9_mend_16 (by decide) ?_
      refine j_locals [0, 1, 2, 3] rfl ?_
      exact tX9_mend_21 B E hW (x1) (x2) (x3) (x3) (3) (vi0)  h
def fX9_of (ns : Nat) (x1 : Int32) (x2 : Int32) (vi0 : VI) : Option (Int32) := (fX9_isMendable ns x1 x2 vi0).bind fun r1 => if r1 = true then (fX9_numberOf ns x1 x2 vi0).bind fun r5 => some (r5) else (fX9_sillAt ns x1 vi0).bind fun r2 => optS r2 (some ((-1))) fun q3 => if x2 < 4 then some ((-1)) else if x2 ≤ 5 then if x2 = 4 then some ((vi0 (q3 + 1) 2)) else (fX3_allThick (q3 + 1) vi0).bind fun r4 => some (r4) else some ((-1))
theorem tX9_of {G : GT} {sv : SV} {vi0 : VI} {vl0 : VL} {ns : Nat} {x1 : Int32} {x2 : Int32} {r : Int32} (hW : WF sv ns) (h : fX9_of ns x1 x2 vi0 = some (r)) : Call G mX9_of 3 0 0 [.ref (G.1 + 0), .int x1, .int x2] sv vi0 vl0 (QI r sv vi0 vl0) := by
  refine j_mk (by decide +kernel) (Nat.le_of_ble_eq_true rfl) (fun Γ B E => ?_)
  show J G Γ 0 0 0 [(0, .ref (G.1 + 0)), (1, .int x1), (2, .int x2)] [] sv vi0 vl0
  unfold fX9_of at h
  refine j_aload_n B dX9_of_0 rfl 0 rfl ?_
  refine j_iload_n B dX9_of_1 rfl 1 rfl ?_
  refine j_iload_n B dX9_of_2 rfl 2 rfl ?_
  obtain ⟨r1, hr1, h⟩ := h_bind h
  refine j_cVI (rest := []) B (tX9_isMendable hW hr1) cls9 (wf_2 hW) jt_RX9_123 wi_X9_isMendable ws_X9_isMendable rfl (by decide) (Nat.le_refl _) (Nat.le_refl _) rfl (Nat.le_of_ble_eq_true rfl) dX9_of_3 ?_
  refine j_if_eq (tgt := 16) B dX9_of_6 (by decide) (fun c => ?_) (fun c => ?_)
  · replace h := h_neg (b2i_0 c) h
    refine j_aload_n B dX9_of_16 rfl 0 rfl ?_
    refine j_iload_n B dX9_of_17 rfl 1 rfl ?_
    obtain ⟨r2, hr2, h⟩ := h_bind h
    refine j_cVN (rest := []) B (tX9_sillAt hW hr2) cls9 (wf_2 hW) jt_RX9_137 wi_X9_sillAt ws_X9_sillAt rfl (by decide) (Nat.le_refl _) (Nat.le_refl _) rfl (Nat.le_of_ble_eq_true rfl) dX9_of_18 ?_
    rcases r2 with _ | q3
    · replace h := h_none h
      refine j_astore_nN (L' := [(3, .null), (0, .ref (G.1 + 0)), (1, .int x1), (2, .int x2)]) B dX9_of_21 rfl (by decide) rfl ?_
      refine j_aloadN_n B dX9_of_22 rfl 0 rfl ?_
      refine j_ifnullN (tgt := 36) B dX9_of_23 (by decide) ?_
      refine j_iconst B dX9_of_36 (v := (-1)) (by decide) ?_
      have e1 := Option.some.inj h
      subst e1
      exact j_iret B E rfl dX9_of_37 (Nat.le_refl _) (Nat.le_refl _) ⟨rfl, rfl, rfl, rfl⟩
    · replace h := h_some h
      have is_q3 := sillAt_is hW hr2
      refine j_astore_n (L' := [(3, .ref (G.1 + q3)), (0, .ref (G.1 + 0)), (1, .int x1), (2, .int x2)]) B dX9_of_21 rfl (by decide) rfl ?_
      refine j_aload_n B dX9_of_22 rfl 0 rfl ?_
      refine j_ifnull B dX9_of_23 ?_
      refine j_iload_n B dX9_of_26 rfl 3 rfl ?_
      refine j_iconst B dX9_of_27 (v := 4) (by decide) ?_
      refine j_icmp_lt (tgt := 36) B dX9_of_28 (by decide) (fun c => ?_) (fun c => ?_)
      · replace h := h_pos c h
        refine j_iconst B dX9_of_36 (v := (-1)) (by decide) ?_
        have e1 := Option.some.inj h
        subst e1
        exact j_iret B E rfl dX9_of_37 (Nat.le_refl _) (Nat.le_refl _) ⟨rfl, rfl, rfl, rfl⟩
      · replace h := h_neg c h
        refine j_iload_n B dX9_of_31 rfl 3 rfl ?_
        refine j_iconst B dX9_of_32 (v := 5) (by decide) ?_
        refine j_icmp_le (tgt := 38) B dX9_of_33 (by decide) (fun c => ?_) (fun c => ?_)
        · replace h := h_pos c h
          refine j_iload_n B dX9_of_38 rfl 3 rfl ?_
          refine j_iconst B dX9_of_39 (v := 4) (by decide) ?_
          refine j_icmp_ne (tgt := 53) B dX9_of_40 (by decide) (fun c => ?_) (fun c => ?_)
          · replace h := h_neg c h
            refine j_aload_n B dX9_of_53 rfl 0 rfl ?_
            refine gf_RX9_141 B rfl ((is_q3).1) (is_q3).2.2.1 dX9_of_54 ?_
            obtain ⟨r4, hr4, h⟩ := h_bind h
            refine j_cVI (rest := []) B (tX3_allThick ((is_q3).2.2.2.2.2) hr4) cls3 (((is_q3).2.2.2.2.2).1) jt_RX9_147 wi_X3_allThick ws_X3_allThick rfl (by decide) (Nat.le_refl _) (Nat.le_refl _) rfl (Nat.le_of_ble_eq_true rfl) dX9_of_57 ?_
            have e1 := Option.some.inj h
            subst e1
            exact j_iret B E rfl dX9_of_60 (Nat.le_refl _) (Nat.le_refl _) ⟨rfl, rfl, rfl, rfl⟩
          · replace h := h_pos c h
            refine j_aload_n B dX9_of_43 rfl 0 rfl ?_
            refine gf_RX9_141 B rfl ((is_q3).1) (is_q3).2.2.1 dX9_of_44 ?_
            refine gf_RX9_144 B rfl (((is_q3).2.2.2.2.2).1) dX9_of_47 ?_
            refine j_goto (tgt := 60) B dX9_of_50 (by decide) ?_
            have e1 := Option.some.inj h
            subst e1
            exact j_iret B E rfl dX9_of_60 (Nat.le_refl _) (Nat.le_refl _) ⟨rfl, rfl, rfl, rfl⟩
        · replace h := h_neg c h
          refine j_iconst B dX9_of_36 (v := (-1)) (by decide) ?_
          have e1 := Option.some.inj h
          subst e1
          exact j_iret B E rfl dX9_of_37 (Nat.le_refl _) (Nat.le_refl _) ⟨rfl, rfl, rfl, rfl⟩
  · replace h := h_pos (b2i_1 c) h
    refine j_aload_n B dX9_of_9 rfl 0 rfl ?_
    refine j_iload_n B dX9_of_10 rfl 1 rfl ?_
    refine j_iload_n B dX9_of_11 rfl 2 rfl ?_
    obtain ⟨r5, hr5, h⟩ := h_bind h
    refine j_cVI (rest := []) B (tX9_numberOf hW hr5) cls9 (wf_2 hW) jt_RX9_126 wi_X9_numberOf ws_X9_numberOf rfl (by decide) (Nat.le_refl _) (Nat.le_refl _) rfl (Nat.le_of_ble_eq_true rfl) dX9_of_12 ?_
    have e1 := Option.some.inj h
    subst e1
    exact j_iret B E rfl dX9_of_15 (Nat.le_refl _) (Nat.le_refl _) ⟨rfl, rfl, rfl, rfl⟩
def fX9_layer (ns : Nat) (x1 : Int32) (x2 : Int32) (x3 : Int32) (vi0 : VI) : Option (Int32) := (fX9_sillAt ns x1 vi0).bind fun r1 => optS r1 (some ((-1))) fun q2 => if x2 < 0 then some ((-1)) else (fX9_isWithin x3 1).bind fun r3 => if r3 = true then (fX3_tells (q2 + 1) x2 x3 vi0).bind fun r4 => some (r4) else some ((-1))
theorem tX9_layer {G : GT} {sv : SV} {vi0 : VI} {vl0 : VL} {ns : Nat} {x1 : Int32} {x2 : Int32} {x3 : Int32} {r : Int32} (hW : WF sv ns) (h : fX9_layer ns x1 x2 x3 vi0 = some (r)) : Call G mX9_layer 1 0 0 [.ref (G.1 + 0), .int x1, .int x2, .int x3] sv vi0 vl0 (QI r sv vi0 vl0) := by
  refine j_mk (by decide +kernel) (Nat.le_of_ble_eq_true rfl) (fun Γ B E => ?_)
  show J G Γ 0 0 0 [(0, .ref (G.1 + 0)), (1, .int x1), (2, .int x2), (3, .int x3)] [] sv vi0 vl0
  unfold fX9_layer at h
  refine j_aload_n B dX9_layer_0 rfl 0 rfl ?_
  refine j_iload_n B dX9_layer_1 rfl 1 rfl ?_
  obtain ⟨r1, hr1, h⟩ := h_bind h
  refine j_cVN (rest := []) B (tX9_sillAt hW hr1) cls9 (wf_2 hW) jt_RX9_137 wi_X9_sillAt ws_X9_sillAt rfl (by decide) (Nat.le_refl _) (Nat.le_refl _) rfl (Nat.le_of_ble_eq_true rfl) dX9_layer_2 ?_
  rcases r1 with _ | q2
  · replace h := h_none h
    refine j_astoreN (L' := [(4, .null), (0, .ref (G.1 + 0)), (1, .int x1), (2, .int x2), (3, .int x3)]) B dX9_layer_5 (by decide) rfl ?_
    refine j_aloadN B dX9_layer_7 0 rfl ?_
    refine j_ifnullN (tgt := 24) B dX9_layer_9 (by decide) ?_
    refine j_iconst B dX9_layer_24 (v := (-1)) (by decide) ?_
    have e1 := Option.some.inj h
    subst e1
    exact j_iret B E rfl dX9_layer_25 (Nat.le_refl _) (Nat.le_refl _) ⟨rfl, rfl, rfl, rfl⟩
  · replace h := h_some h
    have is_q2 := sillAt_is hW hr1
    refine j_astore (L' := [(4, .ref (G.1 + q2)), (0, .ref (G.1 + 0)), (1, .int x1), (2, .int x2), (3, .int x3)]) B dX9_layer_5 (by decide) rfl ?_
    refine j_aload B dX9_layer_7 0 rfl ?_
    refine j_ifnull B dX9_layer_9 ?_
    refine j_iload_n B dX9_layer_12 rfl 3 rfl ?_
    refine j_if_lt (tgt := 24) B dX9_layer_13 (by decide) (fun c => ?_) (fun c => ?_)
    · replace h := h_pos c h
      refine j_iconst B dX9_layer_24 (v := (-1)) (by decide) ?_
      have e1 := Option.some.inj h
      subst e1
      exact j_iret B E rfl dX9_layer_25 (Nat.le_refl _) (Nat.le_refl _) ⟨rfl, rfl, rfl, rfl⟩
    · replace h := h_neg c h
      refine j_iload_n B dX9_layer_16 rfl 4 rfl ?_
      refine j_iconst B dX9_layer_17 (v := 1) (by decide) ?_
      obtain ⟨r3, hr3, h⟩ := h_bind h
      refine j_cSI (rest := []) B (tX9_isWithin hr3) jt_RX9_90 wst_X9_isWithin rfl (by decide) (Nat.le_refl _) (Nat.le_refl _) rfl (Nat.le_of_ble_eq_true rfl) dX9_layer_18 ?_
      refine j_if_ne (tgt := 26) B dX9_layer_21 (by decide) (fun c => ?_) (fun c => ?_)
      · replace h := h_pos (b2i_1 c) h
        refine j_aload B dX9_layer_26 0 rfl ?_
        refine gf_RX9_141 B rfl ((is_q2).1) (is_q2).2.2.1 dX9_layer_28 ?_
        refine j_iload_n B dX9_layer_31 rfl 3 rfl ?_
        refine j_iload_n B dX9_layer_32 rfl 4 rfl ?_
        obtain ⟨r4, hr4, h⟩ := h_bind h
        refine j_cVI (rest := []) B (tX3_tells ((is_q2).2.2.2.2.2) hr4) cls3 (((is_q2).2.2.2.2.2).1) jt_RX9_151 wi_X3_tells ws_X3_tells rfl (by decide) (Nat.le_refl _) (Nat.le_refl _) rfl (Nat.le_of_ble_eq_true rfl) dX9_layer_33 ?_
        have e1 := Option.some.inj h
        subst e1
        exact j_iret B E rfl dX9_layer_36 (Nat.le_refl _) (Nat.le_refl _) ⟨rfl, rfl, rfl, rfl⟩
      · replace h := h_neg (b2i_0 c) h
        refine j_iconst B dX9_layer_24 (v := (-1)) (by decide) ?_
        have e1 := Option.some.inj h
        subst e1
        exact j_iret B E rfl dX9_layer_25 (Nat.le_refl _) (Nat.le_refl _) ⟨rfl, rfl, rfl, rfl⟩
def fX9_feed (x1 : Int32) (vi0 : VI) : Option (Int32 × VI) := (fX9_isWithin x1 255).bind fun r1 => if r1 = true then (fX8_add x1 vi0).bind fun r2 => if r2.1 = true then some ((r2.2 3 1), r2.2) else some ((-3), r2.2) else some ((-1), vi0)
theorem tX9_feed {G : GT} {sv : SV} {vi0 : VI} {vl0 : VL} {ns : Nat} {x1 : Int32} {r : Int32} {vi' : VI} (hW : WF sv ns) (h : fX9_feed x1 vi0 = some (r, vi')) : Call G mX9_feed 1 0 0 [.ref (G.1 + 0), .int x1] sv vi0 vl0 (QI r sv vi' vl0) := by
  refine j_mk (by decide +kernel) (Nat.le_of_ble_eq_true rfl) (fun Γ B E => ?_)
  show J G Γ 0 0 0 [(0, .ref (G.1 + 0)), (1, .int x1)] [] sv vi0 vl0
  unfold fX9_feed at h
  refine j_iload_n B dX9_feed_0 rfl 1 rfl ?_
  refine j_sipush B dX9_feed_1 (v := 255) (by decide) ?_
  obtain ⟨r1, hr1, h⟩ := h_bind h
  refine j_cSI (rest := []) B (tX9_isWithin hr1) jt_RX9_90 wst_X9_isWithin rfl (by decide) (Nat.le_refl _) (Nat.le_refl _) rfl (Nat.le_of_ble_eq_true rfl) dX9_feed_4 ?_
  refine j_if_ne (tgt := 12) B dX9_feed_7 (by decide) (fun c => ?_) (fun c => ?_)
  · replace h := h_pos (b2i_1 c) h
    refine j_aload_n B dX9_feed_12 rfl 0 rfl ?_
    refine gf_RX9_22 B rfl (wf_2 hW) (wf_102 hW) dX9_feed_13 ?_
    refine j_iload_n B dX9_feed_16 rfl 1 rfl ?_
    obtain ⟨r2, hr2, h⟩ := h_bind h
    refine j_cVI (rest := []) B (tX8_add hW hr2) cls8 (wf_5 hW) jt_RX9_154 wi_X8_add ws_X8_add rfl (by decide) (Nat.le_refl _) (Nat.le_refl _) rfl (Nat.le_of_ble_eq_true rfl) dX9_feed_17 ?_
    refine j_if_eq (tgt := 33) B dX9_feed_20 (by decide) (fun c => ?_) (fun c => ?_)
    · replace h := h_neg (b2i_0 c) h
      refine j_bipush B dX9_feed_33 (v := (-3)) (by decide) ?_
      obtain ⟨e1, e2⟩ := Prod.mk.inj (Option.some.inj h)
      subst e1
      subst e2
      exact j_iret B E rfl dX9_feed_35 (Nat.le_refl _) (Nat.le_refl _) ⟨rfl, rfl, rfl, rfl⟩
    · replace h := h_pos (b2i_1 c) h
      refine j_aload_n B dX9_feed_23 rfl 0 rfl ?_
      refine gf_RX9_22 B rfl (wf_2 hW) (wf_102 hW) dX9_feed_24 ?_
      refine gf_RX9_157 B rfl (wf_5 hW) dX9_feed_27 ?_
      refine j_goto (tgt := 35) B dX9_feed_30 (by decide) ?_
      obtain ⟨e1, e2⟩ := Prod.mk.inj (Option.some.inj h)
      subst e1
      subst e2
      exact j_iret B E rfl dX9_feed_35 (Nat.le_refl _) (Nat.le_refl _) ⟨rfl, rfl, rfl, rfl⟩
  · replace h := h_neg (b2i_0 c) h
    refine j_iconst B dX9_feed_10 (v := (-1)) (by decide) ?_
    obtain ⟨e1, e2⟩ := Prod.mk.inj (Option.some.inj h)
    subst e1
    subst e2
    exact j_iret B E rfl dX9_feed_11 (Nat.le_refl _) (Nat.le_refl _) ⟨rfl, rfl, rfl, rfl⟩
def fX9_law (ns : Nat) (vi0 : VI) : Option (Int32 × VI) := (fX8_readInto vi0).bind fun r1 => if r1.1 < 0 then (fX5_become 5 9 (j_up r1.2 3 1 0)).bind fun r2 => (fX9_forgetAll ns r2).bind fun r3 => some (1, r3) else some (((-100) - r1.1), (j_up r1.2 3 1 0))
theorem tX9_law {G : GT} {sv : SV} {vi0 : VI} {vl0 : VL} {ns : Nat} {r : Int32} {vi' : VI} (hW : WF sv ns) (h : fX9_law ns vi0 = some (r, vi')) : Call G mX9_law 105 0 0 [.ref (G.1 + 0)] sv vi0 vl0 (QI r (j_svr sv 3 4 (9 + 1)) vi' vl0) := by
  refine j_mk (by decide +kernel) (Nat.le_of_ble_eq_true rfl) (fun Γ B E => ?_)
  show J G Γ 0 0 0 [(0, .ref (G.1 + 0))] [] sv vi0 vl0
  unfold fX9_law at h
  refine j_aload_n B dX9_law_0 rfl 0 rfl ?_
  refine gf_RX9_22 B rfl (wf_2 hW) (wf_102 hW) dX9_law_1 ?_
  refine j_aload_n B dX9_law_4 rfl 0 rfl ?_
  refine gf_RX9_33 B rfl (wf_2 hW) (wf_108 hW) dX9_law_5 ?_
  obtain ⟨r1, hr1, h⟩ := h_bind h
  refine j_cVI (rest := []) B (tX8_readInto hW hr1) cls8 (wf_5 hW) jt_RX9_160 wi_X8_readInto ws_X8_readInto rfl (by decide) (Nat.le_refl _) (Nat.le_refl _) rfl (Nat.le_of_ble_eq_true rfl) dX9_law_8 ?_
  replace hW := wf_into (r := 9 + 1) hW
  refine j_istore_n (L' := [(1, .int r1.1), (0, .ref (G.1 + 0))]) B dX9_law_11 rfl (by decide) rfl ?_
  refine j_aload_n B dX9_law_12 rfl 1 rfl ?_
  refine gf_RX9_22 B rfl (wf_2 hW) (wf_102 hW) dX9_law_13 ?_
  refine j_iconst B dX9_law_16 (v := 0) (by decide) ?_
  refine pf_RX9_157 B rfl (wf_5 hW) dX9_law_17 ?_
  refine j_iload_n B dX9_law_20 rfl 0 rfl ?_
  refine j_if_lt (tgt := 29) B dX9_law_21 (by decide) (fun c => ?_) (fun c => ?_)
  · replace h := h_pos c h
    refine j_aload_n B dX9_law_29 rfl 1 rfl ?_
    refine gf_RX9_29 B rfl (wf_2 hW) (wf_104 hW) dX9_law_30 ?_
    refine j_aload_n B dX9_law_33 rfl 1 rfl ?_
    refine gf_RX9_33 B rfl (wf_2 hW) (wf_108 hW) dX9_law_34 ?_
    obtain ⟨r2, hr2, h⟩ := h_bind h
    refine j_cVV (rest := []) B (tX5_become ((wf_law5 hW)) ((wf_law9 hW)) hr2) cls5 (wf_7 hW) jt_RX9_164 wi_X5_become ws_X5_become rfl (by decide) (Nat.le_refl _) (Nat.le_refl _) rfl (Nat.le_of_ble_eq_true rfl) dX9_law_37 ?_
    refine j_aload_n B dX9_law_40 rfl 1 rfl ?_
    obtain ⟨r3, hr3, h⟩ := h_bind h
    refine j_cVV (rest := []) B (tX9_forgetAll hW hr3) cls9 (wf_2 hW) jt_RX9_168 wi_X9_forgetAll ws_X9_forgetAll rfl (by decide) (Nat.le_refl _) (Nat.le_refl _) rfl (Nat.le_of_ble_eq_true rfl) dX9_law_41 ?_
    refine j_iconst B dX9_law_44 (v := 1) (by decide) ?_
    obtain ⟨e1, e2⟩ := Prod.mk.inj (Option.some.inj h)
    subst e1
    subst e2
    exact j_iret B E rfl dX9_law_45 (Nat.le_refl _) (Nat.le_refl _) ⟨rfl, rfl, rfl, rfl⟩
  · replace h := h_neg c h
    refine j_bipush B dX9_law_24 (v := (-100)) (by decide) ?_
    refine j_iload_n B dX9_law_26 rfl 0 rfl ?_
    refine j_isub B dX9_law_27 ?_
    obtain ⟨e1, e2⟩ := Prod.mk.inj (Option.some.inj h)
    subst e1
    subst e2
    exact j_iret B E rfl dX9_law_28 (Nat.le_refl _) (Nat.le_refl _) ⟨rfl, rfl, rfl, rfl⟩
def fX9_isLooking (x0 : Int32)  : Option (Bool) := (fX9_isWithin x0 65).bind fun r1 => some (r1)
theorem tX9_isLooking {G : GT} {sv : SV} {vi0 : VI} {vl0 : VL} {x0 : Int32} {r : Bool} (h : fX9_isLooking x0 = some (r)) : Call G mX9_isLooking 1 0 0 [.int x0] sv vi0 vl0 (QI (b2i r) sv vi0 vl0) := by
  refine j_mk (by decide +kernel) (Nat.le_of_ble_eq_true rfl) (fun Γ B E => ?_)
  show J G Γ 0 0 0 [(0, .int x0)] [] sv vi0 vl0
  unfold fX9_isLooking at h
  refine j_iload_n B dX9_isLooking_0 rfl 0 rfl ?_
  refine j_bipush B dX9_isLooking_1 (v := 65) (by decide) ?_
  obtain ⟨r1, hr1, h⟩ := h_bind h
  refine j_cSI (rest := []) B (tX9_isWithin hr1) jt_RX9_90 wst_X9_isWithin rfl (by decide) (Nat.le_refl _) (Nat.le_refl _) rfl (Nat.le_of_ble_eq_true rfl) dX9_isLooking_3 ?_
  have z9 := b2i_or r1
  have e1 := Option.some.inj h
  subst e1
  exact j_zret B E rfl z9 dX9_isLooking_6 (Nat.le_refl _) (Nat.le_refl _) ⟨rfl, rfl, rfl, rfl⟩
def fX9_whomOf (x0 : Int32)  : Option (Int32) := if 60 ≤ x0 then some ((x0 - 60)) else some ((x0 / 10))
theorem tX9_whomOf {G : GT} {sv : SV} {vi0 : VI} {vl0 : VL} {x0 : Int32} {r : Int32} (h : fX9_whomOf x0 = some (r)) : Call G mX9_whomOf 0 0 0 [.int x0] sv vi0 vl0 (QI r sv vi0 vl0) := by
  refine j_mk (by decide +kernel) (Nat.le_of_ble_eq_true rfl) (fun Γ B E => ?_)
  show J G Γ 0 0 0 [(0, .int x0)] [] sv vi0 vl0
  unfold fX9_whomOf at h
  refine j_iload_n B dX9_whomOf_0 rfl 0 rfl ?_
  refine j_bipush B dX9_whomOf_1 (v := 60) (by decide) ?_
  refine j_icmp_ge (tgt := 13) B dX9_whomOf_3 (by decide) (fun c => ?_) (fun c => ?_)
  · replace h := h_pos c h
    refine j_iload_n B dX9_whomOf_13 rfl 0 rfl ?_
    refine j_bipush B dX9_whomOf_14 (v := 60) (by decide) ?_
    refine j_isub B dX9_whomOf_16 ?_
    have e1 := Option.some.inj h
    subst e1
    exact j_iret B E rfl dX9_whomOf_17 (Nat.le_refl _) (Nat.le_refl _) ⟨rfl, rfl, rfl, rfl⟩
  · replace h := h_neg c h
    refine j_iload_n B dX9_whomOf_6 rfl 0 rfl ?_
    refine j_bipush B dX9_whomOf_7 (v := 10) (by decide) ?_
    refine j_idiv B dX9_whomOf_9 (by decide) ?_
    refine j_goto (tgt := 17) B dX9_whomOf_10 (by decide) ?_
    have e1 := Option.some.inj h
    subst e1
    exact j_iret B E rfl dX9_whomOf_17 (Nat.le_refl _) (Nat.le_refl _) ⟨rfl, rfl, rfl, rfl⟩
def fX9_muchOf (x1 : Int32) (vi0 : VI) : Option (Int32) := if 60 ≤ x1 then if inb (x1 - 60) 6 = true then some ((vi0 2 (x1 - 60).toNatClampNeg)) else none else some ((x1 - x1 / 10 * 10))
theorem tX9_muchOf {G : GT} {sv : SV} {vi0 : VI} {vl0 : VL} {ns : Nat} {x1 : Int32} {r : Int32} (hW : WF sv ns) (h : fX9_muchOf x1 vi0 = some (r)) : Call G mX9_muchOf 0 0 0 [.ref (G.1 + 0), .int x1] sv vi0 vl0 (QI r sv vi0 vl0) := by
  refine j_mk (by decide +kernel) (Nat.le_of_ble_eq_true rfl) (fun Γ B E => ?_)
  show J G Γ 0 0 0 [(0, .ref (G.1 + 0)), (1, .int x1)] [] sv vi0 vl0
  unfold fX9_muchOf at h
  refine j_iload_n B dX9_muchOf_0 rfl 1 rfl ?_
  refine j_bipush B dX9_muchOf_1 (v := 60) (by decide) ?_
  refine j_icmp_ge (tgt := 13) B dX9_muchOf_3 (by decide) (fun c => ?_) (fun c => ?_)
  · replace h := h_pos c h
    refine j_aload_n B dX9_muchOf_13 rfl 0 rfl ?_
    refine gf_RX9_15 B rfl (wf_2 hW) (wf_101 hW) dX9_muchOf_14 ?_
    refine j_iload_n B dX9_muchOf_17 rfl 1 rfl ?_
    refine j_bipush B dX9_muchOf_18 (v := 60) (by decide) ?_
    refine j_isub B dX9_muchOf_20 ?_
    obtain ⟨b1, h⟩ := h_inb h
    refine j_iald B ((wf_4 hW)) b1 dX9_muchOf_21 ?_
    have e1 := Option.some.inj h
    subst e1
    exact j_iret B E rfl dX9_muchOf_22 (Nat.le_refl _) (Nat.le_refl _) ⟨rfl, rfl, rfl, rfl⟩
  · replace h := h_neg c h
    refine j_iload_n B dX9_muchOf_6 rfl 1 rfl ?_
    refine j_bipush B dX9_muchOf_7 (v := 10) (by decide) ?_
    refine j_irem B dX9_muchOf_9 (by decide) ?_
    refine j_goto (tgt := 22) B dX9_muchOf_10 (by decide) ?_
    have e1 := Option.some.inj h
    subst e1
    exact j_iret B E rfl dX9_muchOf_22 (Nat.le_refl _) (Nat.le_refl _) ⟨rfl, rfl, rfl, rfl⟩
def fX9_lays (ns : Nat) (x1 : Int32) (x2 : Int32) (vi0 : VI) : Option (Int32 × VI) := (fX9_sillAt ns x1 vi0).bind fun r1 => optS r1 (some ((-1), vi0)) fun q2 => (fX9_isLooking x2).bind fun r3 => if r3 = true then (fX9_whomOf x2).bind fun r4 => (fX9_muchOf x2 vi0).bind fun r5 => (fX7_gives q2 (vi0 (q2 + 1) 2) r4 r5 vi0).bind fun r6 => some (r6.1, r6.2) else some ((-1), vi0)
theorem tX9_lays {G : GT} {sv : SV} {vi0 : VI} {vl0 : VL} {ns : Nat} {x1 : Int32} {x2 : Int32} {r : Int32} {vi' : VI} (hW : WF sv ns) (h : fX9_lays ns x1 x2 vi0 = some (r, vi')) : Call G mX9_lays 4 0 0 [.ref (G.1 + 0), .int x1, .int x2] sv vi0 vl0 (QI r sv vi' vl0) := by
  refine j_mk (by decide +kernel) (Nat.le_of_ble_eq_true rfl) (fun Γ B E => ?_)
  show J G Γ 0 0 0 [(0, .ref (G.1 + 0)), (1, .int x1), (2, .int x2)] [] sv vi0 vl0
  unfold fX9_lays at h
  refine j_aload_n B dX9_lays_0 rfl 0 rfl ?_
  refine j_iload_n B dX9_lays_1 rfl 1 rfl ?_
  obtain ⟨r1, hr1, h⟩ := h_bind h
  refine j_cVN (rest := []) B (tX9_sillAt hW hr1) cls9 (wf_2 hW) jt_RX9_137 wi_X9_sillAt ws_X9_sillAt rfl (by decide) (Nat.le_refl _) (Nat.le_refl _) rfl (Nat.le_of_ble_eq_true rfl) dX9_lays_2 ?_
  rcases r1 with _ | q2
  · replace h := h_none h
    refine j_astore_nN (L' := [(3, .null), (0, .ref (G.1 + 0)), (1, .int x1), (2, .int x2)]) B dX9_lays_5 rfl (by decide) rfl ?_
    refine j_aloadN_n B dX9_lays_6 rfl 0 rfl ?_
    refine j_ifnullN (tgt := 17) B dX9_lays_7 (by decide) ?_
    refine j_iconst B dX9_lays_17 (v := (-1)) (by decide) ?_
    obtain ⟨e1, e2⟩ := Prod.mk.inj (Option.some.inj h)
    subst e1
    subst e2
    exact j_iret B E rfl dX9_lays_18 (Nat.le_refl _) (Nat.le_refl _) ⟨rfl, rfl, rfl, rfl⟩
  · replace h := h_some h
    have is_q2 := sillAt_is hW hr1
    refine j_astore_n (L' := [(3, .ref (G.1 + q2)), (0, .ref (G.1 + 0)), (1, .int x1), (2, .int x2)]) B dX9_lays_5 rfl (by decide) rfl ?_
    refine j_aload_n B dX9_lays_6 rfl 0 rfl ?_
    refine j_ifnull B dX9_lays_7 ?_
    refine j_iload_n B dX9_lays_10 rfl 3 rfl ?_
    obtain ⟨r3, hr3, h⟩ := h_bind h
    refine j_cSI (rest := []) B (tX9_isLooking hr3) jt_RX9_171 wst_X9_isLooking rfl (by decide) (Nat.le_refl _) (Nat.le_refl _) rfl (Nat.le_of_ble_eq_true rfl) dX9_lays_11 ?_
    refine j_if_ne (tgt := 19) B dX9_lays_14 (by decide) (fun c => ?_) (fun c => ?_)
    · replace h := h_pos (b2i_1 c) h
      refine j_aload_n B dX9_lays_19 rfl 0 rfl ?_
      refine j_aload_n B dX9_lays_20 rfl 0 rfl ?_
      refine gf_RX9_141 B rfl ((is_q2).1) (is_q2).2.2.1 dX9_lays_21 ?_
      refine gf_RX9_144 B rfl (((is_q2).2.2.2.2.2).1) dX9_lays_24 ?_
      refine j_iload_n B dX9_lays_27 rfl 3 rfl ?_
      obtain ⟨r4, hr4, h⟩ := h_bind h
      refine j_cSI (rest := [.int (vi0 (q2 + 1) 2), .ref (G.1 + q2)]) B (tX9_whomOf hr4) jt_RX9_174 wst_X9_whomOf rfl (by decide) (Nat.le_refl _) (Nat.le_refl _) rfl (Nat.le_of_ble_eq_true rfl) dX9_lays_28 ?_
      refine j_aload_n B dX9_lays_31 rfl 1 rfl ?_
      refine j_iload_n B dX9_lays_32 rfl 3 rfl ?_
      obtain ⟨r5, hr5, h⟩ := h_bind h
      refine j_cVI (rest := [.int r4, .int (vi0 (q2 + 1) 2), .ref (G.1 + q2)]) B (tX9_muchOf hW hr5) cls9 (wf_2 hW) jt_RX9_178 wi_X9_muchOf ws_X9_muchOf rfl (by decide) (Nat.le_refl _) (Nat.le_refl _) rfl (Nat.le_of_ble_eq_true rfl) dX9_lays_33 ?_
      obtain ⟨r6, hr6, h⟩ := h_bind h
      refine j_cVI (rest := []) B (tX7_gives hW (is_q2) hr6) cls7 ((is_q2).1) jt_RX9_181 wi_X7_gives ws_X7_gives rfl (by decide) (Nat.le_refl _) (Nat.le_refl _) rfl (Nat.le_of_ble_eq_true rfl) dX9_lays_36 ?_
      obtain ⟨e1, e2⟩ := Prod.mk.inj (Option.some.inj h)
      subst e1
      subst e2
      exact j_iret B E rfl dX9_lays_39 (Nat.le_refl _) (Nat.le_refl _) ⟨rfl, rfl, rfl, rfl⟩
    · replace h := h_neg (b2i_0 c) h
      refine j_iconst B dX9_lays_17 (v := (-1)) (by decide) ?_
      obtain ⟨e1, e2⟩ := Prod.mk.inj (Option.some.inj h)
      subst e1
      subst e2
      exact j_iret B E rfl dX9_lays_18 (Nat.le_refl _) (Nat.le_refl _) ⟨rfl, rfl, rfl, rfl⟩
def fX9_isShelf (x0 : Int32)  : Option (Bool) := (fX9_isWithin x0 5).bind fun r1 => some (r1)
theorem tX9_isShelf {G : GT} {sv : SV} {vi0 : VI} {vl0 : VL} {x0 : Int32} {r : Bool} (h : fX9_isShelf x0 = some (r)) : Call G mX9_isShelf 1 0 0 [.int x0] sv vi0 vl0 (QI (b2i r) sv vi0 vl0) := by
  refine j_mk (by decide +kernel) (Nat.le_of_ble_eq_true rfl) (fun Γ B E => ?_)
  show J G Γ 0 0 0 [(0, .int x0)] [] sv vi0 vl0
  unfold fX9_isShelf at h
  refine j_iload_n B dX9_isShelf_0 rfl 0 rfl ?_
  refine j_iconst B dX9_isShelf_1 (v := 5) (by decide) ?_
  obtain ⟨r1, hr1, h⟩ := h_bind h
  refine j_cSI (rest := []) B (tX9_isWithin hr1) jt_RX9_90 wst_X9_isWithin rfl (by decide) (Nat.le_refl _) (Nat.le_refl _) rfl (Nat.le_of_ble_eq_true rfl) dX9_isShelf_2 ?_
  have z9 := b2i_or r1
  have e1 := Option.some.inj h
  subst e1
  exact j_zret B E rfl z9 dX9_isShelf_5 (Nat.le_refl _) (Nat.le_refl _) ⟨rfl, rfl, rfl, rfl⟩
def fX9_refusalOfBytes (x1 : Int32) (vi0 : VI) : Option (Int32) := if inb x1 6 = true then if (vi0 (51 + 2 * x1.toNatClampNeg) 0) = 0 then some ((-11)) else if inb x1 6 = true then (fX6_isBytes (51 + 2 * x1.toNatClampNeg) vi0).bind fun r3 => if r3 = true then some (0) else some ((-12)) else none else none
theorem tX9_refusalOfBytes {G : GT} {sv : SV} {vi0 : VI} {vl0 : VL} {ns : Nat} {x1 : Int32} {r : Int32} (hW : WF sv ns) (h : fX9_refusalOfBytes x1 vi0 = some (r)) : Call G mX9_refusalOfBytes 2 0 0 [.ref (G.1 + 0), .int x1] sv vi0 vl0 (QI r sv vi0 vl0) := by
  refine j_mk (by decide +kernel) (Nat.le_of_ble_eq_true rfl) (fun Γ B E => ?_)
  show J G Γ 0 0 0 [(0, .ref (G.1 + 0)), (1, .int x1)] [] sv vi0 vl0
  unfold fX9_refusalOfBytes at h
  refine j_aload_n B dX9_refusalOfBytes_0 rfl 0 rfl ?_
  refine gf_RX9_79 B rfl (wf_2 hW) (wf_149 hW) dX9_refusalOfBytes_1 ?_
  refine j_iload_n B dX9_refusalOfBytes_4 rfl 1 rfl ?_
  obtain ⟨b1, h⟩ := h_inb h
  refine j_aald B (wf_52 hW) (Or.inr (Or.inl rfl)) b1 (wf_shv hW b1) dX9_refusalOfBytes_5 ?_
  refine gf_RX9_105 B rfl ((wf_shelf hW b1).1) dX9_refusalOfBytes_6 ?_
  refine j_if_ne (tgt := 15) B dX9_refusalOfBytes_9 (by decide) (fun c => ?_) (fun c => ?_)
  · replace h := h_neg c h
    refine j_aload_n B dX9_refusalOfBytes_15 rfl 0 rfl ?_
    refine gf_RX9_79 B rfl (wf_2 hW) (wf_149 hW) dX9_refusalOfBytes_16 ?_
    refine j_iload_n B dX9_refusalOfBytes_19 rfl 1 rfl ?_
    obtain ⟨b2, h⟩ := h_inb h
    refine j_aald B (wf_52 hW) (Or.inr (Or.inl rfl)) b2 (wf_shv hW b2) dX9_refusalOfBytes_20 ?_
    obtain ⟨r3, hr3, h⟩ := h_bind h
    refine j_cVI (rest := []) B (tX6_isBytes (wf_shelf hW b2) hr3) cls6 ((wf_shelf hW b2).1) jt_RX9_108 wi_X6_isBytes ws_X6_isBytes rfl (by decide) (Nat.le_refl _) (Nat.le_refl _) rfl (Nat.le_of_ble_eq_true rfl) dX9_refusalOfBytes_21 ?_
    refine j_if_eq (tgt := 31) B dX9_refusalOfBytes_24 (by decide) (fun c => ?_) (fun c => ?_)
    · replace h := h_neg (b2i_0 c) h
      refine j_bipush B dX9_refusalOfBytes_31 (v := (-12)) (by decide) ?_
      have e1 := Option.some.inj h
      subst e1
      exact j_iret B E rfl dX9_refusalOfBytes_33 (Nat.le_refl _) (Nat.le_refl _) ⟨rfl, rfl, rfl, rfl⟩
    · replace h := h_pos (b2i_1 c) h
      refine j_iconst B dX9_refusalOfBytes_27 (v := 0) (by decide) ?_
      refine j_goto (tgt := 33) B dX9_refusalOfBytes_28 (by decide) ?_
      have e1 := Option.some.inj h
      subst e1
      exact j_iret B E rfl dX9_refusalOfBytes_33 (Nat.le_refl _) (Nat.le_refl _) ⟨rfl, rfl, rfl, rfl⟩
  · replace h := h_pos c h
    refine j_bipush B dX9_refusalOfBytes_12 (v := (-11)) (by decide) ?_
    have e1 := Option.some.inj h
    subst e1
    exact j_iret B E rfl dX9_refusalOfBytes_14 (Nat.le_refl _) (Nat.le_refl _) ⟨rfl, rfl, rfl, rfl⟩
def fX9_thinkBook_96 (x1 : Nat) (x2 : Nat) (vl0 : VL) (k17 : Int32 → Int32 → Int32 → VI → Option (Int32 × VI)) (x3 : Int32) (x4 : Int32) (x5 : Int32) (x7 : Int32) (x8 : Int32) (vi : VI) : Option (Int32 × VI) := (fX7_layOn x1 13 x7 x8 vi).bind fun r7 => k17 x3 x4 (x5 + 1) r7.2
theorem tX9_thinkBook_96 {G : GT} {sv : SV} {vl0 : VL} {ns : Nat} {Γ : CT} {x1 : Nat} {x2 : Nat} {r : Int32} {vi' : VI} {k17 : Int32 → Int32 → Int32 → VI → Option (Int32 × VI)} (B : Base G Γ mX9_thinkBook 5 0 0) (E : Ends G Γ 0 0 (QI r sv vi' vl0)) (hW : WF sv ns) (h1 : isSill sv x1) (h2 : isShelf sv x2) (hk17 : ∀ (x3 : Int32) (x4 : Int32) (x5 : Int32) (vi : VI), k17 x3 x4 x5 vi = some (r, vi') → J G Γ 0 0 17 [(0, .ref (G.1 + 0)), (1, .ref (G.1 + x1)), (2, .ref (G.1 + x2)), (3, .int x3), (4, .int x4), (5, .int x5)] [] sv vi vl0) : ∀ (x3 : Int32) (x4 : Int32) (x5 : Int32) (x7 : Int32) (x8 : Int32) (vi : VI), fX9_thinkBook_96 x1 x2 vl0 k17 x3 x4 x5 x7 x8 vi = some (r, vi') → J G Γ 0 0 96 [(0, .ref (G.1 + 0)), (1, .ref (G.1 + x1)), (2, .ref (G.1 + x2)), (3, .int x3), (4, .int x4), (5, .int x5), (7, .int x7), (8, .int x8)] [] sv vi vl0 := by
  intro x3 x4 x5 x7 x8 vi  h
  unfold fX9_thinkBook_96 at h
  refine j_aload_n B dX9_thinkBook_96 rfl 1 rfl ?_
  refine j_aload_n B dX9_thinkBook_97 rfl 0 rfl ?_
  refine gf_RX9_39 B rfl (wf_2 hW) (wf_112 hW) dX9_thinkBook_98 ?_
  refine j_iload B dX9_thinkBook_101 6 rfl ?_
  refine j_iload B dX9_thinkBook_103 7 rfl ?_
  obtain ⟨r7, hr7, h⟩ := h_bind h
  refine j_cVI (rest := []) B (tX7_layOn hW (h1) ((wf_dust13 hW)) hr7) cls7 ((h1).1) jt_RX9_219 wi_X7_layOn ws_X7_layOn rfl (by decide) (Nat.le_refl _) (Nat.le_refl _) rfl (Nat.le_of_ble_eq_true rfl) dX9_thinkBook_105 ?_
  refine j_pop B dX9_thinkBook_108 rfl ?_
  refine j_iinc (v := (x5 + 1)) (L' := [(5, .int (x5 + 1)), (0, .ref (G.1 + 0)), (1, .ref (G.1 + x1)), (2, .ref (G.1 + x2)), (3, .int x3), (4, .int x4), (7, .int x7), (8, .int x8)]) B dX9_thinkBook_109 5 rfl rfl (by decide) rfl ?_
  refine j_goto (tgt := 17) B dX9_thinkBook_112 (by decide) ?_
  refine j_locals [1, 2, 3, 4, 5, 0] rfl ?_
  exact hk17 (x3) (x4) ((x5 + 1)) (r7.2)  h
def fX9_thinkBook_17 (x1 : Nat) (x2 : Nat) (vl0 : VL) : Nat → Int32 → Int32 → Int32 → VI → Option (Int32 × VI)
  | 0, _, _, _, _ => none
  | F + 1, x3, x4, x5, vi => if x3 ≤ x5 then some (x4, vi) else if 40 ≤ x5 then some (x4, vi) else if (vi x2 3) ≤ x5 then some (x4, vi) else if inb x5 60 = true then (fX9_isLooking (vl0 (x2 + 1) x5.toNatClampNeg).toInt32).bind fun r3 => if r3 = true then (fX9_whomOf (vl0 (x2 + 1) x5.toNatClampNeg).toInt32).bind fun r4 => (fX9_muchOf (vl0 (x2 + 1) x5.toNatClampNeg).toInt32 vi).bind fun r5 => (fX7_gives x1 (vi 13 2) r4 r5 vi).bind fun r6 => if r6.1 = 0 then fX9_thinkBook_96 x1 x2 vl0 (fX9_thinkBook_17 x1 x2 vl0 F) x3 (x4 + 1) x5 r4 r5 r6.2 else fX9_thinkBook_96 x1 x2 vl0 (fX9_thinkBook_17 x1 x2 vl0 F) x3 x4 x5 r4 r5 r6.2 else some (x4, vi) else none
theorem tX9_thinkBook_17 {G : GT} {sv : SV} {vl0 : VL} {ns : Nat} {Γ : CT} {x1 : Nat} {x2 : Nat} {r : Int32} {vi' : VI} (B : Base G Γ mX9_thinkBook 5 0 0) (E : Ends G Γ 0 0 (QI r sv vi' vl0)) (hW : WF sv ns) (h1 : isSill sv x1) (h2 : isShelf sv x2) : ∀ (F : Nat) (x3 : Int32) (x4 : Int32) (x5 : Int32) (vi : VI), fX9_thinkBook_17 x1 x2 vl0 F x3 x4 x5 vi = some (r, vi') → J G Γ 0 0 17 [(0, .ref (G.1 + 0)), (1, .ref (G.1 + x1)), (2, .ref (G.1 + x2)), (3, .int x3), (4, .int x4), (5, .int x5)] [] sv vi vl0 := by
  intro F
  induction F with
  | zero =>
    intro x3 x4 x5 vi  h
    cases (show (none : Option (Int32 × VI)) = some (r, vi') from h)
  | succ F ih =>
    intro x3 x4 x5 vi  h
    rw [fX9_thinkBook_17] at h
    refine j_iload B dX9_thinkBook_17 5 rfl ?_
    refine j_iload_n B dX9_thinkBook_19 rfl 3 rfl ?_
    refine j_icmp_ge (tgt := 115) B dX9_thinkBook_20 (by decide) (fun c => ?_) (fun c => ?_)
    · replace h := h_pos c h
      refine j_iload B dX9_thinkBook_115 4 rfl ?_
      obtain ⟨e1, e2⟩ := Prod.mk.inj (Option.some.inj h)
      subst e1
      subst e2
      exact j_iret B E rfl dX9_thinkBook_117 (Nat.le_refl _) (Nat.le_refl _) ⟨rfl, rfl, rfl, rfl⟩
    · replace h := h_neg c h
      refine j_iload B dX9_thinkBook_23 5 rfl ?_
      refine j_bipush B dX9_thinkBook_25 (v := 40) (by decide) ?_
      refine j_icmp_ge (tgt := 115) B dX9_thinkBook_27 (by decide) (fun c => ?_) (fun c => ?_)
      · replace h := h_pos c h
        refine j_iload B dX9_thinkBook_115 4 rfl ?_
        obtain ⟨e1, e2⟩ := Prod.mk.inj (Option.some.inj h)
        subst e1
        subst e2
        exact j_iret B E rfl dX9_thinkBook_117 (Nat.le_refl _) (Nat.le_refl _) ⟨rfl, rfl, rfl, rfl⟩
      · replace h := h_neg c h
        refine j_iload B dX9_thinkBook_30 5 rfl ?_
        refine j_aload_n B dX9_thinkBook_32 rfl 2 rfl ?_
        refine gf_RX9_112 B rfl ((h2).1) dX9_thinkBook_33 ?_
        refine j_icmp_ge (tgt := 115) B dX9_thinkBook_36 (by decide) (fun c => ?_) (fun c => ?_)
        · replace h := h_pos c h
          refine j_iload B dX9_thinkBook_115 4 rfl ?_
          obtain ⟨e1, e2⟩ := Prod.mk.inj (Option.some.inj h)
          subst e1
          subst e2
          exact j_iret B E rfl dX9_thinkBook_117 (Nat.le_refl _) (Nat.le_refl _) ⟨rfl, rfl, rfl, rfl⟩
        · replace h := h_neg c h
          refine j_aload_n B dX9_thinkBook_39 rfl 2 rfl ?_
          refine gf_RX9_115 B rfl ((h2).1) (h2).2.1 dX9_thinkBook_40 ?_
          refine j_iload B dX9_thinkBook_43 5 rfl ?_
          obtain ⟨b2, h⟩ := h_inb h
          refine j_lald B ((h2).2.2) b2 dX9_thinkBook_45 ?_
          refine j_l2i B dX9_thinkBook_46 ?_
          refine j_istore (L' := [(6, .int (vl0 (x2 + 1) x5.toNatClampNeg).toInt32), (0, .ref (G.1 + 0)), (1, .ref (G.1 + x1)), (2, .ref (G.1 + x2)), (3, .int x3), (4, .int x4), (5, .int x5)]) B dX9_thinkBook_47 (by decide) rfl ?_
          refine j_iload B dX9_thinkBook_49 0 rfl ?_
          obtain ⟨r3, hr3, h⟩ := h_bind h
          refine j_cSI (rest := []) B (tX9_isLooking hr3) jt_RX9_171 wst_X9_isLooking rfl (by decide) (Nat.le_refl _) (Nat.le_refl _) rfl (Nat.le_of_ble_eq_true rfl) dX9_thinkBook_51 ?_
          refine j_if_ne (tgt := 60) B dX9_thinkBook_54 (by decide) (fun c => ?_) (fun c => ?_)
          · replace h := h_pos (b2i_1 c) h
            refine j_iload B dX9_thinkBook_60 0 rfl ?_
            obtain ⟨r4, hr4, h⟩ := h_bind h
            refine j_cSI (rest := []) B (tX9_whomOf hr4) jt_RX9_174 wst_X9_whomOf rfl (by decide) (Nat.le_refl _) (Nat.le_refl _) rfl (Nat.le_of_ble_eq_true rfl) dX9_thinkBook_62 ?_
            refine j_istore (L' := [(7, .int r4), (6, .int (vl0 (x2 + 1) x5.toNatClampNeg).toInt32), (0, .ref (G.1 + 0)), (1, .ref (G.1 + x1)), (2, .ref (G.1 + x2)), (3, .int x3), (4, .int x4), (5, .int x5)]) B dX9_thinkBook_65 (by decide) rfl ?_
            refine j_aload_n B dX9_thinkBook_67 rfl 2 rfl ?_
            refine j_iload B dX9_thinkBook_68 1 rfl ?_
            obtain ⟨r5, hr5, h⟩ := h_bind h
            refine j_cVI (rest := []) B (tX9_muchOf hW hr5) cls9 (wf_2 hW) jt_RX9_178 wi_X9_muchOf ws_X9_muchOf rfl (by decide) (Nat.le_refl _) (Nat.le_refl _) rfl (Nat.le_of_ble_eq_true rfl) dX9_thinkBook_70 ?_
            refine j_istore (L' := [(8, .int r5), (7, .int r4), (6, .int (vl0 (x2 + 1) x5.toNatClampNeg).toInt32), (0, .ref (G.1 + 0)), (1, .ref (G.1 + x1)), (2, .ref (G.1 + x2)), (3, .int x3), (4, .int x4), (5, .int x5)]) B dX9_thinkBook_73 (by decide) rfl ?_
            refine j_aload_n B dX9_thinkBook_75 rfl 4 rfl ?_
            refine j_aload_n B dX9_thinkBook_76 rfl 3 rfl ?_
            refine gf_RX9_39 B rfl (wf_2 hW) (wf_112 hW) dX9_thinkBook_77 ?_
            refine gf_RX9_144 B rfl (wf_15 hW) dX9_thinkBook_80 ?_
            refine j_iload B dX9_thinkBook_83 1 rfl ?_
            refine j_iload B dX9_thinkBook_85 0 rfl ?_
            obtain ⟨r6, hr6, h⟩ := h_bind h
            refine j_cVI (rest := []) B (tX7_gives hW (h1) hr6) cls7 ((h1).1) jt_RX9_181 wi_X7_gives ws_X7_gives rfl (by decide) (Nat.le_refl _) (Nat.le_refl _) rfl (Nat.le_of_ble_eq_true rfl) dX9_thinkBook_87 ?_
            refine j_if_ne (tgt := 96) B dX9_thinkBook_90 (by decide) (fun c => ?_) (fun c => ?_)
            · replace h := h_neg c h
              refine j_locals [3, 4, 5, 6, 7, 8, 1, 0] rfl ?_
              exact tX9_thinkBook_96 B E hW h1 h2 ih (x3) (x4) (x5) (r4) (r5) (r6.2)  h
            · replace h := h_pos c h
              refine j_iinc (v := (x4 + 1)) (L' := [(4, .int (x4 + 1)), (8, .int r5), (7, .int r4), (6, .int (vl0 (x2 + 1) x5.toNatClampNeg).toInt32), (0, .ref (G.1 + 0)), (1, .ref (G.1 + x1)), (2, .ref (G.1 + x2)), (3, .int x3), (5, .int x5)]) B dX9_thinkBook_93 7 rfl rfl (by decide) rfl ?_
              refine j_locals [4, 5, 6, 7, 0, 8, 2, 1] rfl ?_
              exact tX9_thinkBook_96 B E hW h1 h2 ih (x3) ((x4 + 1)) (x5) (r4) (r5) (r6.2)  h
          · replace h := h_neg (b2i_0 c) h
            refine j_goto (tgt := 115) B dX9_thinkBook_57 (by decide) ?_
            refine j_iload B dX9_thinkBook_115 5 rfl ?_
            obtain ⟨e1, e2⟩ := Prod.mk.inj (Option.some.inj h)
            subst e1
            subst e2
            exact j_iret B E rfl dX9_thinkBook_117 (Nat.le_refl _) (Nat.le_refl _) ⟨rfl, rfl, rfl, rfl⟩
def fX9_thinkBook (x1 : Nat) (x2 : Nat) (x3 : Int32) (vi0 : VI) (vl0 : VL) : Option (Int32 × VI) := (fX3_become 13 (x1 + 1) vi0).bind fun r1 => fX9_thinkBook_17 x1 x2 vl0 FU x3 0 0 r1
theorem tX9_thinkBook {G : GT} {sv : SV} {vi0 : VI} {vl0 : VL} {ns : Nat} {x1 : Nat} {x2 : Nat} {x3 : Int32} {r : Int32} {vi' : VI} (hW : WF sv ns) (h1 : isSill sv x1) (h2 : isShelf sv x2) (h : fX9_thinkBook x1 x2 x3 vi0 vl0 = some (r, vi')) : Call G mX9_thinkBook 5 0 0 [.ref (G.1 + 0), .ref (G.1 + x1), .ref (G.1 + x2), .int x3] sv vi0 vl0 (QI r sv vi' vl0) := by
  refine j_mk (by decide +kernel) (Nat.le_of_ble_eq_true rfl) (fun Γ B E => ?_)
  show J G Γ 0 0 0 [(0, .ref (G.1 + 0)), (1, .ref (G.1 + x1)), (2, .ref (G.1 + x2)), (3, .int x3)] [] sv vi0 vl0
  unfold fX9_thinkBook at h
  refine j_aload_n B dX9_thinkBook_0 rfl 0 rfl ?_
  refine gf_RX9_39 B rfl (wf_2 hW) (wf_112 hW) dX9_thinkBook_1 ?_
  refine j_aload_n B dX9_thinkBook_4 rfl 1 rfl ?_
  refine gf_RX9_141 B rfl ((h1).1) (h1).2.2.1 dX9_thinkBook_5 ?_
  obtain ⟨r1, hr1, h⟩ := h_bind h
  refine j_cVV (rest := []) B (tX3_become ((wf_dust13 hW)) ((h1).2.2.2.2.2) hr1) cls3 (wf_15 hW) jt_RX9_201 wi_X3_become ws_X3_become rfl (by decide) (Nat.le_refl _) (Nat.le_refl _) rfl (Nat.le_of_ble_eq_true rfl) dX9_thinkBook_8 ?_
  refine j_iconst B dX9_thinkBook_11 (v := 0) (by decide) ?_
  refine j_istore (L' := [(4, .int 0), (0, .ref (G.1 + 0)), (1, .ref (G.1 + x1)), (2, .ref (G.1 + x2)), (3, .int x3)]) B dX9_thinkBook_12 (by decide) rfl ?_
  refine j_iconst B dX9_thinkBook_14 (v := 0) (by decide) ?_
  refine j_istore (L' := [(5, .int 0), (4, .int 0), (0, .ref (G.1 + 0)), (1, .ref (G.1 + x1)), (2, .ref (G.1 + x2)), (3, .int x3)]) B dX9_thinkBook_15 (by decide) rfl ?_
  refine j_locals [2, 3, 4, 5, 1, 0] rfl ?_
  exact tX9_thinkBook_17 B E hW h1 h2 FU (x3) (0) (0) (r1)  h
def fX9_later (ns : Nat) (x1 : Int32) (x2 : Int32) (x3 : Int32) (x4 : Int32) (vi0 : VI) (vl0 : VL) : Option (Int32 × VI) := (fX9_sillAt ns x3 vi0).bind fun r1 => optS r1 (some ((-1), vi0)) fun q2 => (fX9_isShelf x1).bind fun r3 => if r3 = true then (fX9_isWithin x2 40).bind fun r4 => if r4 = true then (fX9_isWithin x4 4).bind fun r5 => if r5 = true then (fX9_refusalOfBytes x1 vi0).bind fun r6 => if 0 ≤ r6 then if inb x1 6 = true then (fX9_thinkBook q2 (51 + 2 * x1.toNatClampNeg) x2 vi0 vl0).bind fun r8 => if x4 = 0 then some ((r8.2 13 2), r8.2) else if x4 = 1 then (fX3_allThick 13 r8.2).bind fun r9 => some (r9, r8.2) else if x4 = 2 then (fX3_readBits 13 r8.2).bind fun r10 => some (r10, r8.2) else if x4 = 3 then (fX3_ofWhomMost 13 r8.2).bind fun r11 => some (r11, r8.2) else some (r8.1, r8.2) else none else some (r6, vi0) else some ((-1), vi0) else some ((-1), vi0) else some ((-1), vi0)
theorem tX9_later {G : GT} {sv : SV} {vi0 : VI} {vl0 : VL} {ns : Nat} {x1 : Int32} {x2 : Int32} {x3 : Int32} {x4 : Int32} {r : Int32} {vi' : VI} (hW : WF sv ns) (h : fX9_later ns x1 x2 x3 x4 vi0 vl0 = some (r, vi')) : Call G mX9_later 6 0 0 [.ref (G.1 + 0), .int x1, .int x2, .int x3, .int x4] sv vi0 vl0 (QI r sv vi' vl0) := by
  refine j_mk (by decide +kernel) (Nat.le_of_ble_eq_true rfl) (fun Γ B E => ?_)
  show J G Γ 0 0 0 [(0, .ref (G.1 + 0)), (1, .int x1), (2, .int x2), (3, .int x3), (4, .int x4)] [] sv vi0 vl0
  unfold fX9_later at h
  refine j_aload_n B dX9_later_0 rfl 0 rfl ?_
  refine j_iload_n B dX9_later_1 rfl 3 rfl ?_
  obtain ⟨r1, hr1, h⟩ := h_bind h
  refine j_cVN (rest := []) B (tX9_sillAt hW hr1) cls9 (wf_2 hW) jt_RX9_137 wi_X9_sillAt ws_X9_sillAt rfl (by decide) (Nat.le_refl _) (Nat.le_refl _) rfl (Nat.le_of_ble_eq_true rfl) dX9_later_2 ?_
  rcases r1 with _ | q2
  · replace h := h_none h
    refine j_astoreN (L' := [(5, .null), (0, .ref (G.1 + 0)), (1, .int x1), (2, .int x2), (3, .int x3), (4, .int x4)]) B dX9_later_5 (by decide) rfl ?_
    refine j_aloadN B dX9_later_7 0 rfl ?_
    refine j_ifnullN (tgt := 37) B dX9_later_9 (by decide) ?_
    refine j_iconst B dX9_later_37 (v := (-1)) (by decide) ?_
    obtain ⟨e1, e2⟩ := Prod.mk.inj (Option.some.inj h)
    subst e1
    subst e2
    exact j_iret B E rfl dX9_later_38 (Nat.le_refl _) (Nat.le_refl _) ⟨rfl, rfl, rfl, rfl⟩
  · replace h := h_some h
    have is_q2 := sillAt_is hW hr1
    refine j_astore (L' := [(5, .ref (G.1 + q2)), (0, .ref (G.1 + 0)), (1, .int x1), (2, .int x2), (3, .int x3), (4, .int x4)]) B dX9_later_5 (by decide) rfl ?_
    refine j_aload B dX9_later_7 0 rfl ?_
    refine j_ifnull B dX9_later_9 ?_
    refine j_iload_n B dX9_later_12 rfl 2 rfl ?_
    obtain ⟨r3, hr3, h⟩ := h_bind h
    refine j_cSI (rest := []) B (tX9_isShelf hr3) jt_RX9_101 wst_X9_isShelf rfl (by decide) (Nat.le_refl _) (Nat.le_refl _) rfl (Nat.le_of_ble_eq_true rfl) dX9_later_13 ?_
    refine j_if_eq (tgt := 37) B dX9_later_16 (by decide) (fun c => ?_) (fun c => ?_)
    · replace h := h_neg (b2i_0 c) h
      refine j_iconst B dX9_later_37 (v := (-1)) (by decide) ?_
      obtain ⟨e1, e2⟩ := Prod.mk.inj (Option.some.inj h)
      subst e1
      subst e2
      exact j_iret B E rfl dX9_later_38 (Nat.le_refl _) (Nat.le_refl _) ⟨rfl, rfl, rfl, rfl⟩
    · replace h := h_pos (b2i_1 c) h
      refine j_iload_n B dX9_later_19 rfl 3 rfl ?_
      refine j_bipush B dX9_later_20 (v := 40) (by decide) ?_
      obtain ⟨r4, hr4, h⟩ := h_bind h
      refine j_cSI (rest := []) B (tX9_isWithin hr4) jt_RX9_90 wst_X9_isWithin rfl (by decide) (Nat.le_refl _) (Nat.le_refl _) rfl (Nat.le_of_ble_eq_true rfl) dX9_later_22 ?_
      refine j_if_eq (tgt := 37) B dX9_later_25 (by decide) (fun c => ?_) (fun c => ?_)
      · replace h := h_neg (b2i_0 c) h
        refine j_iconst B dX9_later_37 (v := (-1)) (by decide) ?_
        obtain ⟨e1, e2⟩ := Prod.mk.inj (Option.some.inj h)
        subst e1
        subst e2
        exact j_iret B E rfl dX9_later_38 (Nat.le_refl _) (Nat.le_refl _) ⟨rfl, rfl, rfl, rfl⟩
      · replace h := h_pos (b2i_1 c) h
        refine j_iload B dX9_later_28 5 rfl ?_
        refine j_iconst B dX9_later_30 (v := 4) (by decide) ?_
        obtain ⟨r5, hr5, h⟩ := h_bind h
        refine j_cSI (rest := []) B (tX9_isWithin hr5) jt_RX9_90 wst_X9_isWithin rfl (by decide) (Nat.le_refl _) (Nat.le_refl _) rfl (Nat.le_of_ble_eq_true rfl) dX9_later_31 ?_
        refine j_if_ne (tgt := 39) B dX9_later_34 (by decide) (fun c => ?_) (fun c => ?_)
        · replace h := h_pos (b2i_1 c) h
          refine j_aload_n B dX9_later_39 rfl 1 rfl ?_
          refine j_iload_n B dX9_later_40 rfl 2 rfl ?_
          obtain ⟨r6, hr6, h⟩ := h_bind h
          refine j_cVI (rest := []) B (tX9_refusalOfBytes hW hr6) cls9 (wf_2 hW) jt_RX9_185 wi_X9_refusalOfBytes ws_X9_refusalOfBytes rfl (by decide) (Nat.le_refl _) (Nat.le_refl _) rfl (Nat.le_of_ble_eq_true rfl) dX9_later_41 ?_
          refine j_istore (L' := [(6, .int r6), (5, .ref (G.1 + q2)), (0, .ref (G.1 + 0)), (1, .int x1), (2, .int x2), (3, .int x3), (4, .int x4)]) B dX9_later_44 (by decide) rfl ?_
          refine j_iload B dX9_later_46 0 rfl ?_
          refine j_if_ge (tgt := 54) B dX9_later_48 (by decide) (fun c => ?_) (fun c => ?_)
          · replace h := h_pos c h
            refine j_aload_n B dX9_later_54 rfl 2 rfl ?_
            refine j_aload B dX9_later_55 1 rfl ?_
            refine j_aload_n B dX9_later_57 rfl 2 rfl ?_
            refine gf_RX9_79 B rfl (wf_2 hW) (wf_149 hW) dX9_later_58 ?_
            refine j_iload_n B dX9_later_61 rfl 3 rfl ?_
            obtain ⟨b7, h⟩ := h_inb h
            refine j_aald B (wf_52 hW) (Or.inr (Or.inl rfl)) b7 (wf_shv hW b7) dX9_later_62 ?_
            refine j_iload_n B dX9_later_63 rfl 4 rfl ?_
            obtain ⟨r8, hr8, h⟩ := h_bind h
            refine j_cVI (rest := []) B (tX9_thinkBook hW (is_q2) (wf_shelf hW b7) hr8) cls9 (wf_2 hW) jt_RX9_188 wi_X9_thinkBook ws_X9_thinkBook rfl (by decide) (Nat.le_refl _) (Nat.le_refl _) rfl (Nat.le_of_ble_eq_true rfl) dX9_later_64 ?_
            refine j_istore (L' := [(7, .int r8.1), (6, .int r6), (5, .ref (G.1 + q2)), (0, .ref (G.1 + 0)), (1, .int x1), (2, .int x2), (3, .int x3), (4, .int x4)]) B dX9_later_67 (by decide) rfl ?_
            refine j_iload B dX9_later_69 7 rfl ?_
            by_cases c0 : x4 = 0
            · replace h := h_pos c0 h
              refine j_tableIn (off := 29) (tgt := 100) B dX9_later_71 (by rw [c0]; decide) (by rw [c0]; decide) (by rw [c0]; decide) (by decide) ?_
              refine j_aload_n B dX9_later_100 rfl 3 rfl ?_
              refine gf_RX9_39 B rfl (wf_2 hW) (wf_112 hW) dX9_later_101 ?_
              refine gf_RX9_144 B rfl (wf_15 hW) dX9_later_104 ?_
              obtain ⟨e1, e2⟩ := Prod.mk.inj (Option.some.inj h)
              subst e1
              subst e2
              exact j_iret B E rfl dX9_later_107 (Nat.le_refl _) (Nat.le_refl _) ⟨rfl, rfl, rfl, rfl⟩
            replace h := h_neg c0 h
            by_cases c1 : x4 = 1
            · replace h := h_pos c1 h
              refine j_tableIn (off := 37) (tgt := 108) B dX9_later_71 (by rw [c1]; decide) (by rw [c1]; decide) (by rw [c1]; decide) (by decide) ?_
              refine j_aload_n B dX9_later_108 rfl 3 rfl ?_
              refine gf_RX9_39 B rfl (wf_2 hW) (wf_112 hW) dX9_later_109 ?_
              obtain ⟨r9, hr9, h⟩ := h_bind h
              refine j_cVI (rest := []) B (tX3_allThick ((wf_dust13 hW)) hr9) cls3 (wf_15 hW) jt_RX9_147 wi_X3_allThick ws_X3_allThick rfl (by decide) (Nat.le_refl _) (Nat.le_refl _) rfl (Nat.le_of_ble_eq_true rfl) dX9_later_112 ?_
              obtain ⟨e1, e2⟩ := Prod.mk.inj (Option.some.inj h)
              subst e1
              subst e2
              exact j_iret B E rfl dX9_later_115 (Nat.le_refl _) (Nat.le_refl _) ⟨rfl, rfl, rfl, rfl⟩
            replace h := h_neg c1 h
            by_cases c2 : x4 = 2
            · replace h := h_pos c2 h
              refine j_tableIn (off := 45) (tgt := 116) B dX9_later_71 (by rw [c2]; decide) (by rw [c2]; decide) (by rw [c2]; decide) (by decide) ?_
              refine j_aload_n B dX9_later_116 rfl 3 rfl ?_
              refine gf_RX9_39 B rfl (wf_2 hW) (wf_112 hW) dX9_later_117 ?_
              obtain ⟨r10, hr10, h⟩ := h_bind h
              refine j_cVI (rest := []) B (tX3_readBits ((wf_dust13 hW)) hr10) cls3 (wf_15 hW) jt_RX9_192 wi_X3_readBits ws_X3_readBits rfl (by decide) (Nat.le_refl _) (Nat.le_refl _) rfl (Nat.le_of_ble_eq_true rfl) dX9_later_120 ?_
              obtain ⟨e1, e2⟩ := Prod.mk.inj (Option.some.inj h)
              subst e1
              subst e2
              exact j_iret B E rfl dX9_later_123 (Nat.le_refl _) (Nat.le_refl _) ⟨rfl, rfl, rfl, rfl⟩
            replace h := h_neg c2 h
            by_cases c3 : x4 = 3
            · replace h := h_pos c3 h
              refine j_tableIn (off := 53) (tgt := 124) B dX9_later_71 (by rw [c3]; decide) (by rw [c3]; decide) (by rw [c3]; decide) (by decide) ?_
              refine j_aload_n B dX9_later_124 rfl 3 rfl ?_
              refine gf_RX9_39 B rfl (wf_2 hW) (wf_112 hW) dX9_later_125 ?_
              obtain ⟨r11, hr11, h⟩ := h_bind h
              refine j_cVI (rest := []) B (tX3_ofWhomMost ((wf_dust13 hW)) hr11) cls3 (wf_15 hW) jt_RX9_195 wi_X3_ofWhomMost ws_X3_ofWhomMost rfl (by decide) (Nat.le_refl _) (Nat.le_refl _) rfl (Nat.le_of_ble_eq_true rfl) dX9_later_128 ?_
              obtain ⟨e1, e2⟩ := Prod.mk.inj (Option.some.inj h)
              subst e1
              subst e2
              exact j_iret B E rfl dX9_later_131 (Nat.le_refl _) (Nat.le_refl _) ⟨rfl, rfl, rfl, rfl⟩
            replace h := h_neg c3 h
            refine j_tableOut (tgt := 132) B dX9_later_71 (by have n0 := lv_neT c0 (a := 0) (by decide); have n1 := lv_neT c1 (a := 1) (by decide); have n2 := lv_neT c2 (a := 2) (by decide); have n3 := lv_neT c3 (a := 3) (by decide); omega) (by decide) ?_
            refine j_iload B dX9_later_132 0 rfl ?_
            obtain ⟨e1, e2⟩ := Prod.mk.inj (Option.some.inj h)
            subst e1
            subst e2
            exact j_iret B E rfl dX9_later_134 (Nat.le_refl _) (Nat.le_refl _) ⟨rfl, rfl, rfl, rfl⟩
          · replace h := h_neg c h
            refine j_iload B dX9_later_51 0 rfl ?_
            obtain ⟨e1, e2⟩ := Prod.mk.inj (Option.some.inj h)
            subst e1
            subst e2
            exact j_iret B E rfl dX9_later_53 (Nat.le_refl _) (Nat.le_refl _) ⟨rfl, rfl, rfl, rfl⟩
        · replace h := h_neg (b2i_0 c) h
          refine j_iconst B dX9_later_37 (v := (-1)) (by decide) ?_
          obtain ⟨e1, e2⟩ := Prod.mk.inj (Option.some.inj h)
          subst e1
          subst e2
          exact j_iret B E rfl dX9_later_38 (Nat.le_refl _) (Nat.le_refl _) ⟨rfl, rfl, rfl, rfl⟩
