def fX10_keep_22  (x1 : Int32) (x2 : Int32) (vi : VI) : Option (Int32 × VI) := if inb x1 6 = true then some (1, (j_up vi 94 x1.toNatClampNeg x2)) else none
theorem tX10_keep_22 {G : GT} {sv : SV} {vl0 : VL} {ns : Nat} {Γ : CT} {r : Int32} {vi' : VI} (B : Base G Γ mX10_keep 2 0 0) (E : Ends G Γ 0 0 (QI r sv vi' vl0)) (hW : WF sv ns) : ∀ (x1 : Int32) (x2 : Int32) (vi : VI), fX10_keep_22  x1 x2 vi = some (r, vi') → J G Γ 0 0 22 [(0, .ref (G.1 + 63)), (1, .int x1), (2, .int x2)] [] sv vi vl0 := by
  intro x1 x2 vi  h
  unfold fX10_keep_22 at h
  refine j_aload_n B dX10_keep_22 rfl 0 rfl ?_
  refine gf_RX10_105 B rfl (wf_65 hW) (wf_192 hW) dX10_keep_23 ?_
  refine j_iload_n B dX10_keep_26 rfl 1 rfl ?_
  refine j_iload_n B dX10_keep_27 rfl 2 rfl ?_
  obtain ⟨b2, h⟩ := h_inb h
  refine j_iast B ((wf_96 hW)) b2 dX10_keep_28 ?_
  refine j_iconst B dX10_keep_29 (v := 1) (by decide) ?_
  obtain ⟨e1, e2⟩ := Prod.mk.inj (Option.some.inj h)
  subst e1
  subst e2
  exact j_iret B E rfl dX10_keep_30 (Nat.le_refl _) (Nat.le_refl _) ⟨rfl, rfl, rfl, rfl⟩
def fX10_keep (x1 : Int32) (x2 : Int32) (vi0 : VI) : Option (Int32 × VI) := (fX10_isShelf x1).bind fun r1 => if r1 = true then if x2 = (-1) then fX10_keep_22  x1 x2 vi0 else (fX10_isBody x2 vi0).bind fun r3 => if r3 = true then fX10_keep_22  x1 x2 vi0 else some ((-1), vi0) else some ((-1), vi0)
theorem tX10_keep {G : GT} {sv : SV} {vi0 : VI} {vl0 : VL} {ns : Nat} {x1 : Int32} {x2 : Int32} {r : Int32} {vi' : VI} (hW : WF sv ns) (h : fX10_keep x1 x2 vi0 = some (r, vi')) : Call G mX10_keep 2 0 0 [.ref (G.1 + 63), .int x1, .int x2] sv vi0 vl0 (QI r sv vi' vl0) := by
  refine j_mk (by decide +kernel) (Nat.le_of_ble_eq_true rfl) (fun Γ B E => ?_)
  show J G Γ 0 0 0 [(0, .ref (G.1 + 63)), (1, .int x1), (2, .int x2)] [] sv vi0 vl0
  unfold fX10_keep at h
  refine j_iload_n B dX10_keep_0 rfl 1 rfl ?_
  obtain ⟨r1, hr1, h⟩ := h_bind h
  refine j_cSI (rest := []) B (tX10_isShelf hr1) jt_RX10_132 wst_X10_isShelf rfl (by decide) (Nat.le_refl _) (Nat.le_refl _) rfl (Nat.le_of_ble_eq_true rfl) dX10_keep_1 ?_
  refine j_if_eq (tgt := 20) B dX10_keep_4 (by decide) (fun c => ?_) (fun c => ?_)
  · replace h := h_neg (b2i_0 c) h
    refine j_iconst B dX10_keep_20 (v := (-1)) (by decide) ?_
    obtain ⟨e1, e2⟩ := Prod.mk.inj (Option.some.inj h)
    subst e1
    subst e2
    exact j_iret B E rfl dX10_keep_21 (Nat.le_refl _) (Nat.le_refl _) ⟨rfl, rfl, rfl, rfl⟩
  · replace h := h_pos (b2i_1 c) h
    refine j_iload_n B dX10_keep_7 rfl 2 rfl ?_
    refine j_iconst B dX10_keep_8 (v := (-1)) (by decide) ?_
    refine j_icmp_eq (tgt := 22) B dX10_keep_9 (by decide) (fun c => ?_) (fun c => ?_)
    · replace h := h_pos c h
      refine j_locals [0, 1, 2] rfl ?_
      exact tX10_keep_22 B E hW (x1) (x2) (vi0)  h
    · replace h := h_neg c h
      refine j_aload_n B dX10_keep_12 rfl 0 rfl ?_
      refine j_iload_n B dX10_keep_13 rfl 2 rfl ?_
      obtain ⟨r3, hr3, h⟩ := h_bind h
      refine j_cVI (rest := []) B (tX10_isBody hW hr3) cls10 (wf_65 hW) jt_RX10_427 wi_X10_isBody ws_X10_isBody rfl (by decide) (Nat.le_refl _) (Nat.le_refl _) rfl (Nat.le_of_ble_eq_true rfl) dX10_keep_14 ?_
      refine j_if_ne (tgt := 22) B dX10_keep_17 (by decide) (fun c => ?_) (fun c => ?_)
      · replace h := h_pos (b2i_1 c) h
        refine j_locals [0, 1, 2] rfl ?_
        exact tX10_keep_22 B E hW (x1) (x2) (vi0)  h
      · replace h := h_neg (b2i_0 c) h
        refine j_iconst B dX10_keep_20 (v := (-1)) (by decide) ?_
        obtain ⟨e1, e2⟩ := Prod.mk.inj (Option.some.inj h)
        subst e1
        subst e2
        exact j_iret B E rfl dX10_keep_21 (Nat.le_refl _) (Nat.le_refl _) ⟨rfl, rfl, rfl, rfl⟩
def fX10_row_54  : Nat → Int32 → Int32 → VI → VL → Option (Int32 × VI × VL)
  | 0, _, _, _, _ => none
  | F + 1, x1, x4, vi, vl => if ((60 * x1) + 60) ≤ x4 then some (1, vi, vl) else if inb x4 360 = true then fX10_row_54  F x1 (x4 + 1) vi (j_up vl 96 x4.toNatClampNeg 0) else none
theorem tX10_row_54 {G : GT} {sv : SV} {ns : Nat} {Γ : CT} {r : Int32} {vi' : VI} {vl' : VL} (B : Base G Γ mX10_row 2 0 0) (E : Ends G Γ 0 0 (QI r sv vi' vl')) (hW : WF sv ns) : ∀ (F : Nat) (x1 : Int32) (x4 : Int32) (vi : VI) (vl : VL), fX10_row_54  F x1 x4 vi vl = some (r, vi', vl') → J G Γ 0 0 54 [(0, .ref (G.1 + 63)), (1, .int x1), (4, .int x4)] [] sv vi vl := by
  intro F
  induction F with
  | zero =>
    intro x1 x4 vi vl  h
    cases (show (none : Option (Int32 × VI × VL)) = some (r, vi', vl') from h)
  | succ F ih =>
    intro x1 x4 vi vl  h
    rw [fX10_row_54] at h
    refine j_iload B dX10_row_54 2 rfl ?_
    refine j_bipush B dX10_row_56 (v := 60) (by decide) ?_
    refine j_iload_n B dX10_row_58 rfl 1 rfl ?_
    refine j_imul B dX10_row_59 ?_
    refine j_bipush B dX10_row_60 (v := 60) (by decide) ?_
    refine j_iadd B dX10_row_62 ?_
    refine j_icmp_ge (tgt := 80) B dX10_row_63 (by decide) (fun c => ?_) (fun c => ?_)
    · replace h := h_pos c h
      refine j_iconst B dX10_row_80 (v := 1) (by decide) ?_
      obtain ⟨e1, e2⟩ := Prod.mk.inj (Option.some.inj h)
      obtain ⟨e2, e3⟩ := Prod.mk.inj e2
      subst e1
      subst e2
      subst e3
      exact j_iret B E rfl dX10_row_81 (Nat.le_refl _) (Nat.le_refl _) ⟨rfl, rfl, rfl, rfl⟩
    · replace h := h_neg c h
      refine j_aload_n B dX10_row_66 rfl 0 rfl ?_
      refine gf_RX10_111 B rfl (wf_65 hW) (wf_194 hW) dX10_row_67 ?_
      refine j_iload B dX10_row_70 2 rfl ?_
      refine j_lconst B dX10_row_72 (v := 0) rfl ?_
      obtain ⟨b5, h⟩ := h_inb h
      refine j_last B ((wf_98 hW)) b5 dX10_row_73 ?_
      refine j_iinc (v := (x4 + 1)) (L' := [(4, .int (x4 + 1)), (0, .ref (G.1 + 63)), (1, .int x1)]) B dX10_row_74 2 rfl rfl (by decide) rfl ?_
      refine j_goto (tgt := 54) B dX10_row_77 (by decide) ?_
      refine j_locals [1, 2, 0] rfl ?_
      exact ih (x1) ((x4 + 1)) (vi) ((j_up vl 96 x4.toNatClampNeg 0))  h
def fX10_row (x1 : Int32) (x2 : Int32) (x3 : Int32) (vi0 : VI) (vl0 : VL) : Option (Int32 × VI × VL) := (fX10_isShelf x1).bind fun r1 => if r1 = true then (fX10_in x2 0 4).bind fun r2 => if r2 = true then if x3 ≤ 60 then if 0 ≤ x3 then if inb x1 6 = true then if inb x1 6 = true then fX10_row_54  FU x1 (60 * x1) (j_up (j_up vi0 94 x1.toNatClampNeg ((-2) - x2)) 95 x1.toNatClampNeg x3) vl0 else none else none else some ((-14), vi0, vl0) else some ((-1), vi0, vl0) else some ((-1), vi0, vl0) else some ((-1), vi0, vl0)
theorem tX10_row {G : GT} {sv : SV} {vi0 : VI} {vl0 : VL} {ns : Nat} {x1 : Int32} {x2 : Int32} {x3 : Int32} {r : Int32} {vi' : VI} {vl' : VL} (hW : WF sv ns) (h : fX10_row x1 x2 x3 vi0 vl0 = some (r, vi', vl')) : Call G mX10_row 2 0 0 [.ref (G.1 + 63), .int x1, .int x2, .int x3] sv vi0 vl0 (QI r sv vi' vl') := by
  refine j_mk (by decide +kernel) (Nat.le_of_ble_eq_true rfl) (fun Γ B E => ?_)
  show J G Γ 0 0 0 [(0, .ref (G.1 + 63)), (1, .int x1), (2, .int x2), (3, .int x3)] [] sv vi0 vl0
  unfold fX10_row at h
  refine j_iload_n B dX10_row_0 rfl 1 rfl ?_
  obtain ⟨r1, hr1, h⟩ := h_bind h
  refine j_cSI (rest := []) B (tX10_isShelf hr1) jt_RX10_132 wst_X10_isShelf rfl (by decide) (Nat.le_refl _) (Nat.le_refl _) rfl (Nat.le_of_ble_eq_true rfl) dX10_row_1 ?_
  refine j_if_eq (tgt := 22) B dX10_row_4 (by decide) (fun c => ?_) (fun c => ?_)
  · replace h := h_neg (b2i_0 c) h
    refine j_iconst B dX10_row_22 (v := (-1)) (by decide) ?_
    obtain ⟨e1, e2⟩ := Prod.mk.inj (Option.some.inj h)
    obtain ⟨e2, e3⟩ := Prod.mk.inj e2
    subst e1
    subst e2
    subst e3
    exact j_iret B E rfl dX10_row_23 (Nat.le_refl _) (Nat.le_refl _) ⟨rfl, rfl, rfl, rfl⟩
  · replace h := h_pos (b2i_1 c) h
    refine j_iload_n B dX10_row_7 rfl 2 rfl ?_
    refine j_iconst B dX10_row_8 (v := 0) (by decide) ?_
    refine j_iconst B dX10_row_9 (v := 4) (by decide) ?_
    obtain ⟨r2, hr2, h⟩ := h_bind h
    refine j_cSI (rest := []) B (tX10_in hr2) jt_RX10_124 wst_X10_in rfl (by decide) (Nat.le_refl _) (Nat.le_refl _) rfl (Nat.le_of_ble_eq_true rfl) dX10_row_10 ?_
    refine j_if_eq (tgt := 22) B dX10_row_13 (by decide) (fun c => ?_) (fun c => ?_)
    · replace h := h_neg (b2i_0 c) h
      refine j_iconst B dX10_row_22 (v := (-1)) (by decide) ?_
      obtain ⟨e1, e2⟩ := Prod.mk.inj (Option.some.inj h)
      obtain ⟨e2, e3⟩ := Prod.mk.inj e2
      subst e1
      subst e2
      subst e3
      exact j_iret B E rfl dX10_row_23 (Nat.le_refl _) (Nat.le_refl _) ⟨rfl, rfl, rfl, rfl⟩
    · replace h := h_pos (b2i_1 c) h
      refine j_iload_n B dX10_row_16 rfl 3 rfl ?_
      refine j_bipush B dX10_row_17 (v := 60) (by decide) ?_
      refine j_icmp_le (tgt := 24) B dX10_row_19 (by decide) (fun c => ?_) (fun c => ?_)
      · replace h := h_pos c h
        refine j_iload_n B dX10_row_24 rfl 3 rfl ?_
        refine j_if_ge (tgt := 31) B dX10_row_25 (by decide) (fun c => ?_) (fun c => ?_)
        · replace h := h_pos c h
          refine j_aload_n B dX10_row_31 rfl 0 rfl ?_
          refine gf_RX10_105 B rfl (wf_65 hW) (wf_192 hW) dX10_row_32 ?_
          refine j_iload_n B dX10_row_35 rfl 1 rfl ?_
          refine j_bipush B dX10_row_36 (v := (-2)) (by decide) ?_
          refine j_iload_n B dX10_row_38 rfl 2 rfl ?_
          refine j_isub B dX10_row_39 ?_
          obtain ⟨b3, h⟩ := h_inb h
          refine j_iast B ((wf_96 hW)) b3 dX10_row_40 ?_
          refine j_aload_n B dX10_row_41 rfl 0 rfl ?_
          refine gf_RX10_108 B rfl (wf_65 hW) (wf_193 hW) dX10_row_42 ?_
          refine j_iload_n B dX10_row_45 rfl 1 rfl ?_
          refine j_iload_n B dX10_row_46 rfl 3 rfl ?_
          obtain ⟨b4, h⟩ := h_inb h
          refine j_iast B ((wf_97 hW)) b4 dX10_row_47 ?_
          refine j_bipush B dX10_row_48 (v := 60) (by decide) ?_
          refine j_iload_n B dX10_row_50 rfl 1 rfl ?_
          refine j_imul B dX10_row_51 ?_
          refine j_istore (L' := [(4, .int (60 * x1)), (0, .ref (G.1 + 63)), (1, .int x1), (2, .int x2), (3, .int x3)]) B dX10_row_52 (by decide) rfl ?_
          refine j_locals [1, 2, 0] rfl ?_
          exact tX10_row_54 B E hW FU (x1) ((60 * x1)) ((j_up (j_up vi0 94 x1.toNatClampNeg ((-2) - x2)) 95 x1.toNatClampNeg x3)) (vl0)  h
        · replace h := h_neg c h
          refine j_bipush B dX10_row_28 (v := (-14)) (by decide) ?_
          obtain ⟨e1, e2⟩ := Prod.mk.inj (Option.some.inj h)
          obtain ⟨e2, e3⟩ := Prod.mk.inj e2
          subst e1
          subst e2
          subst e3
          exact j_iret B E rfl dX10_row_30 (Nat.le_refl _) (Nat.le_refl _) ⟨rfl, rfl, rfl, rfl⟩
      · replace h := h_neg c h
        refine j_iconst B dX10_row_22 (v := (-1)) (by decide) ?_
        obtain ⟨e1, e2⟩ := Prod.mk.inj (Option.some.inj h)
        obtain ⟨e2, e3⟩ := Prod.mk.inj e2
        subst e1
        subst e2
        subst e3
        exact j_iret B E rfl dX10_row_23 (Nat.le_refl _) (Nat.le_refl _) ⟨rfl, rfl, rfl, rfl⟩
def fX10_whyNoPlace (x1 : Int32) (x2 : Int32) (vi0 : VI) : Option (Int32) := (fX10_isShelf x1).bind fun r1 => if r1 = true then if inb x1 6 = true then if (vi0 94 x1.toNatClampNeg) = (-1) then some ((-11)) else if inb x1 6 = true then if (vi0 94 x1.toNatClampNeg) < 0 then if inb x1 6 = true then (fX10_in x2 0 ((vi0 95 x1.toNatClampNeg) - 1)).bind fun r5 => if r5 = true then some (0) else some ((-13)) else none else some ((-12)) else none else none else some ((-1))
theorem tX10_whyNoPlace {G : GT} {sv : SV} {vi0 : VI} {vl0 : VL} {ns : Nat} {x1 : Int32} {x2 : Int32} {r : Int32} (hW : WF sv ns) (h : fX10_whyNoPlace x1 x2 vi0 = some (r)) : Call G mX10_whyNoPlace 2 0 0 [.ref (G.1 + 63), .int x1, .int x2] sv vi0 vl0 (QI r sv vi0 vl0) := by
  refine j_mk (by decide +kernel) (Nat.le_of_ble_eq_true rfl) (fun Γ B E => ?_)
  show J G Γ 0 0 0 [(0, .ref (G.1 + 63)), (1, .int x1), (2, .int x2)] [] sv vi0 vl0
  unfold fX10_whyNoPlace at h
  refine j_iload_n B dX10_whyNoPlace_0 rfl 1 rfl ?_
  obtain ⟨r1, hr1, h⟩ := h_bind h
  refine j_cSI (rest := []) B (tX10_isShelf hr1) jt_RX10_132 wst_X10_isShelf rfl (by decide) (Nat.le_refl _) (Nat.le_refl _) rfl (Nat.le_of_ble_eq_true rfl) dX10_whyNoPlace_1 ?_
  refine j_if_ne (tgt := 9) B dX10_whyNoPlace_4 (by decide) (fun c => ?_) (fun c => ?_)
  · replace h := h_pos (b2i_1 c) h
    refine j_aload_n B dX10_whyNoPlace_9 rfl 0 rfl ?_
    refine gf_RX10_105 B rfl (wf_65 hW) (wf_192 hW) dX10_whyNoPlace_10 ?_
    refine j_iload_n B dX10_whyNoPlace_13 rfl 1 rfl ?_
    obtain ⟨b2, h⟩ := h_inb h
    refine j_iald B ((wf_96 hW)) b2 dX10_whyNoPlace_14 ?_
    refine j_iconst B dX10_whyNoPlace_15 (v := (-1)) (by decide) ?_
    refine j_icmp_ne (tgt := 22) B dX10_whyNoPlace_16 (by decide) (fun c => ?_) (fun c => ?_)
    · replace h := h_neg c h
      refine j_aload_n B dX10_whyNoPlace_22 rfl 0 rfl ?_
      refine gf_RX10_105 B rfl (wf_65 hW) (wf_192 hW) dX10_whyNoPlace_23 ?_
      refine j_iload_n B dX10_whyNoPlace_26 rfl 1 rfl ?_
      obtain ⟨b3, h⟩ := h_inb h
      refine j_iald B ((wf_96 hW)) b3 dX10_whyNoPlace_27 ?_
      refine j_if_lt (tgt := 34) B dX10_whyNoPlace_28 (by decide) (fun c => ?_) (fun c => ?_)
      · replace h := h_pos c h
        refine j_iload_n B dX10_whyNoPlace_34 rfl 2 rfl ?_
        refine j_iconst B dX10_whyNoPlace_35 (v := 0) (by decide) ?_
        refine j_aload_n B dX10_whyNoPlace_36 rfl 0 rfl ?_
        refine gf_RX10_108 B rfl (wf_65 hW) (wf_193 hW) dX10_whyNoPlace_37 ?_
        refine j_iload_n B dX10_whyNoPlace_40 rfl 1 rfl ?_
        obtain ⟨b4, h⟩ := h_inb h
        refine j_iald B ((wf_97 hW)) b4 dX10_whyNoPlace_41 ?_
        refine j_iconst B dX10_whyNoPlace_42 (v := 1) (by decide) ?_
        refine j_isub B dX10_whyNoPlace_43 ?_
        obtain ⟨r5, hr5, h⟩ := h_bind h
        refine j_cSI (rest := []) B (tX10_in hr5) jt_RX10_124 wst_X10_in rfl (by decide) (Nat.le_refl _) (Nat.le_refl _) rfl (Nat.le_of_ble_eq_true rfl) dX10_whyNoPlace_44 ?_
        refine j_if_eq (tgt := 54) B dX10_whyNoPlace_47 (by decide) (fun c => ?_) (fun c => ?_)
        · replace h := h_neg (b2i_0 c) h
          refine j_bipush B dX10_whyNoPlace_54 (v := (-13)) (by decide) ?_
          have e1 := Option.some.inj h
          subst e1
          exact j_iret B E rfl dX10_whyNoPlace_56 (Nat.le_refl _) (Nat.le_refl _) ⟨rfl, rfl, rfl, rfl⟩
        · replace h := h_pos (b2i_1 c) h
          refine j_iconst B dX10_whyNoPlace_50 (v := 0) (by decide) ?_
          refine j_goto (tgt := 56) B dX10_whyNoPlace_51 (by decide) ?_
          have e1 := Option.some.inj h
          subst e1
          exact j_iret B E rfl dX10_whyNoPlace_56 (Nat.le_refl _) (Nat.le_refl _) ⟨rfl, rfl, rfl, rfl⟩
      · replace h := h_neg c h
        refine j_bipush B dX10_whyNoPlace_31 (v := (-12)) (by decide) ?_
        have e1 := Option.some.inj h
        subst e1
        exact j_iret B E rfl dX10_whyNoPlace_33 (Nat.le_refl _) (Nat.le_refl _) ⟨rfl, rfl, rfl, rfl⟩
    · replace h := h_pos c h
      refine j_bipush B dX10_whyNoPlace_19 (v := (-11)) (by decide) ?_
      have e1 := Option.some.inj h
      subst e1
      exact j_iret B E rfl dX10_whyNoPlace_21 (Nat.le_refl _) (Nat.le_refl _) ⟨rfl, rfl, rfl, rfl⟩
  · replace h := h_neg (b2i_0 c) h
    refine j_iconst B dX10_whyNoPlace_7 (v := (-1)) (by decide) ?_
    have e1 := Option.some.inj h
    subst e1
    exact j_iret B E rfl dX10_whyNoPlace_8 (Nat.le_refl _) (Nat.le_refl _) ⟨rfl, rfl, rfl, rfl⟩
def fX10_put (x1 : Int32) (x2 : Int32) (x3 : Int64) (vi0 : VI) (vl0 : VL) : Option (Int32 × VL) := (fX10_whyNoPlace x1 x2 vi0).bind fun r1 => if 0 ≤ r1 then if inb x1 6 = true then if ((-2) - (vi0 94 x1.toNatClampNeg)) = 0 then if inb ((60 * x1) + x2) 360 = true then some (1, (j_up vl0 96 ((60 * x1) + x2).toNatClampNeg (x3.toInt32 : Int32).toInt8.toInt32.toInt64)) else none else if ((-2) - (vi0 94 x1.toNatClampNeg)) = 1 then if inb ((60 * x1) + x2) 360 = true then some (1, (j_up vl0 96 ((60 * x1) + x2).toNatClampNeg (x3.toInt32 : Int32).toInt16.toInt32.toInt64)) else none else if ((-2) - (vi0 94 x1.toNatClampNeg)) = 2 then if inb ((60 * x1) + x2) 360 = true then some (1, (j_up vl0 96 ((60 * x1) + x2).toNatClampNeg (x3.toInt32 : Int32).toInt64)) else none else if ((-2) - (vi0 94 x1.toNatClampNeg)) = 3 then if inb ((60 * x1) + x2) 360 = true then some (1, (j_up vl0 96 ((60 * x1) + x2).toNatClampNeg x3)) else none else if (lg_cmp x3 0) = 0 then if inb ((60 * x1) + x2) 360 = true then some (1, (j_up vl0 96 ((60 * x1) + x2).toNatClampNeg 0)) else none else if inb ((60 * x1) + x2) 360 = true then some (1, (j_up vl0 96 ((60 * x1) + x2).toNatClampNeg 1)) else none else none else some (r1, vl0)
theorem tX10_put {G : GT} {sv : SV} {vi0 : VI} {vl0 : VL} {ns : Nat} {x1 : Int32} {x2 : Int32} {x3 : Int64} {r : Int32} {vl' : VL} (hW : WF sv ns) (h : fX10_put x1 x2 x3 vi0 vl0 = some (r, vl')) : Call G mX10_put 3 0 0 [.ref (G.1 + 63), .int x1, .int x2, .long x3] sv vi0 vl0 (QI r sv vi0 vl') := by
  refine j_mk (by decide +kernel) (Nat.le_of_ble_eq_true rfl) (fun Γ B E => ?_)
  show J G Γ 0 0 0 [(0, .ref (G.1 + 63)), (1, .int x1), (2, .int x2), (3, .long x3)] [] sv vi0 vl0
  unfold fX10_put at h
  refine j_aload_n B dX10_put_0 rfl 0 rfl ?_
  refine j_iload_n B dX10_put_1 rfl 1 rfl ?_
  refine j_iload_n B dX10_put_2 rfl 2 rfl ?_
  obtain ⟨r1, hr1, h⟩ := h_bind h
  refine j_cVI (rest := []) B (tX10_whyNoPlace hW hr1) cls10 (wf_65 hW) jt_RX10_433 wi_X10_whyNoPlace ws_X10_whyNoPlace rfl (by decide) (Nat.le_refl _) (Nat.le_refl _) rfl (Nat.le_of_ble_eq_true rfl) dX10_put_3 ?_
  refine j_istore (L' := [(5, .int r1), (0, .ref (G.1 + 63)), (1, .int x1), (2, .int x2), (3, .long x3)]) B dX10_put_6 (by decide) rfl ?_
  refine j_iload B dX10_put_8 0 rfl ?_
  refine j_if_ge (tgt := 16) B dX10_put_10 (by decide) (fun c => ?_) (fun c => ?_)
  · replace h := h_pos c h
    refine j_bipush B dX10_put_16 (v := (-2)) (by decide) ?_
    refine j_aload_n B dX10_put_18 rfl 1 rfl ?_
    refine gf_RX10_105 B rfl (wf_65 hW) (wf_192 hW) dX10_put_19 ?_
    refine j_iload_n B dX10_put_22 rfl 2 rfl ?_
    obtain ⟨b2, h⟩ := h_inb h
    refine j_iald B ((wf_96 hW)) b2 dX10_put_23 ?_
    refine j_isub B dX10_put_24 ?_
    refine j_istore (L' := [(6, .int ((-2) - (vi0 94 x1.toNatClampNeg))), (5, .int r1), (0, .ref (G.1 + 63)), (1, .int x1), (2, .int x2), (3, .long x3)]) B dX10_put_25 (by decide) rfl ?_
    refine j_aload_n B dX10_put_27 rfl 2 rfl ?_
    refine gf_RX10_111 B rfl (wf_65 hW) (wf_194 hW) dX10_put_28 ?_
    refine j_bipush B dX10_put_31 (v := 60) (by decide) ?_
    refine j_iload_n B dX10_put_33 rfl 3 rfl ?_
    refine j_imul B dX10_put_34 ?_
    refine j_iload_n B dX10_put_35 rfl 4 rfl ?_
    refine j_iadd B dX10_put_36 ?_
    refine j_iload B dX10_put_37 0 rfl ?_
    refine j_if_ne (tgt := 49) B dX10_put_39 (by decide) (fun c => ?_) (fun c => ?_)
    · replace h := h_neg c h
      refine j_iload B dX10_put_49 0 rfl ?_
      refine j_iconst B dX10_put_51 (v := 1) (by decide) ?_
      refine j_icmp_ne (tgt := 62) B dX10_put_52 (by decide) (fun c => ?_) (fun c => ?_)
      · replace h := h_neg c h
        refine j_iload B dX10_put_62 0 rfl ?_
        refine j_iconst B dX10_put_64 (v := 2) (by decide) ?_
        refine j_icmp_ne (tgt := 74) B dX10_put_65 (by decide) (fun c => ?_) (fun c => ?_)
        · replace h := h_neg c h
          refine j_iload B dX10_put_74 0 rfl ?_
          refine j_iconst B dX10_put_76 (v := 3) (by decide) ?_
          refine j_icmp_ne (tgt := 84) B dX10_put_77 (by decide) (fun c => ?_) (fun c => ?_)
          · replace h := h_neg c h
            refine j_lload_n B dX10_put_84 rfl 5 rfl ?_
            refine j_lconst B dX10_put_85 (v := 0) rfl ?_
            refine j_lcmp B dX10_put_86 ?_
            refine j_if_eq (tgt := 94) B dX10_put_87 (by decide) (fun c => ?_) (fun c => ?_)
            · replace h := h_pos c h
              refine j_lconst B dX10_put_94 (v := 0) rfl ?_
              obtain ⟨b3, h⟩ := h_inb h
              refine j_last B ((wf_98 hW)) b3 dX10_put_95 ?_
              refine j_iconst B dX10_put_96 (v := 1) (by decide) ?_
              obtain ⟨e1, e2⟩ := Prod.mk.inj (Option.some.inj h)
              subst e1
              subst e2
              exact j_iret B E rfl dX10_put_97 (Nat.le_refl _) (Nat.le_refl _) ⟨rfl, rfl, rfl, rfl⟩
            · replace h := h_neg c h
              refine j_lconst B dX10_put_90 (v := 1) rfl ?_
              refine j_goto (tgt := 95) B dX10_put_91 (by decide) ?_
              obtain ⟨b4, h⟩ := h_inb h
              refine j_last B ((wf_98 hW)) b4 dX10_put_95 ?_
              refine j_iconst B dX10_put_96 (v := 1) (by decide) ?_
              obtain ⟨e1, e2⟩ := Prod.mk.inj (Option.some.inj h)
              subst e1
              subst e2
              exact j_iret B E rfl dX10_put_97 (Nat.le_refl _) (Nat.le_refl _) ⟨rfl, rfl, rfl, rfl⟩
          · replace h := h_pos c h
            refine j_lload_n B dX10_put_80 rfl 5 rfl ?_
            refine j_goto (tgt := 95) B dX10_put_81 (by decide) ?_
            obtain ⟨b5, h⟩ := h_inb h
            refine j_last B ((wf_98 hW)) b5 dX10_put_95 ?_
            refine j_iconst B dX10_put_96 (v := 1) (by decide) ?_
            obtain ⟨e1, e2⟩ := Prod.mk.inj (Option.some.inj h)
            subst e1
            subst e2
            exact j_iret B E rfl dX10_put_97 (Nat.le_refl _) (Nat.le_refl _) ⟨rfl, rfl, rfl, rfl⟩
        · replace h := h_pos c h
          refine j_lload_n B dX10_put_68 rfl 5 rfl ?_
          refine j_l2i B dX10_put_69 ?_
          refine j_i2l B dX10_put_70 ?_
          refine j_goto (tgt := 95) B dX10_put_71 (by decide) ?_
          obtain ⟨b6, h⟩ := h_inb h
          refine j_last B ((wf_98 hW)) b6 dX10_put_95 ?_
          refine j_iconst B dX10_put_96 (v := 1) (by decide) ?_
          obtain ⟨e1, e2⟩ := Prod.mk.inj (Option.some.inj h)
          subst e1
          subst e2
          exact j_iret B E rfl dX10_put_97 (Nat.le_refl _) (Nat.le_refl _) ⟨rfl, rfl, rfl, rfl⟩
      · replace h := h_pos c h
        refine j_lload_n B dX10_put_55 rfl 5 rfl ?_
        refine j_l2i B dX10_put_56 ?_
        refine j_i2s B dX10_put_57 ?_
        refine j_i2l B dX10_put_58 ?_
        refine j_goto (tgt := 95) B dX10_put_59 (by decide) ?_
        obtain ⟨b7, h⟩ := h_inb h
        refine j_last B ((wf_98 hW)) b7 dX10_put_95 ?_
        refine j_iconst B dX10_put_96 (v := 1) (by decide) ?_
        obtain ⟨e1, e2⟩ := Prod.mk.inj (Option.some.inj h)
        subst e1
        subst e2
        exact j_iret B E rfl dX10_put_97 (Nat.le_refl _) (Nat.le_refl _) ⟨rfl, rfl, rfl, rfl⟩
    · replace h := h_pos c h
      refine j_lload_n B dX10_put_42 rfl 5 rfl ?_
      refine j_l2i B dX10_put_43 ?_
      refine j_i2b B dX10_put_44 ?_
      refine j_i2l B dX10_put_45 ?_
      refine j_goto (tgt := 95) B dX10_put_46 (by decide) ?_
      obtain ⟨b8, h⟩ := h_inb h
      refine j_last B ((wf_98 hW)) b8 dX10_put_95 ?_
      refine j_iconst B dX10_put_96 (v := 1) (by decide) ?_
      obtain ⟨e1, e2⟩ := Prod.mk.inj (Option.some.inj h)
      subst e1
      subst e2
      exact j_iret B E rfl dX10_put_97 (Nat.le_refl _) (Nat.le_refl _) ⟨rfl, rfl, rfl, rfl⟩
  · replace h := h_neg c h
    refine j_iload B dX10_put_13 0 rfl ?_
    obtain ⟨e1, e2⟩ := Prod.mk.inj (Option.some.inj h)
    subst e1
    subst e2
    exact j_iret B E rfl dX10_put_15 (Nat.le_refl _) (Nat.le_refl _) ⟨rfl, rfl, rfl, rfl⟩
def fX10_element (x1 : Int32) (x2 : Int32) (vi0 : VI) (vl0 : VL) : Option (Int64) := (fX10_whyNoPlace x1 x2 vi0).bind fun r1 => if 0 ≤ r1 then if inb ((60 * x1) + x2) 360 = true then some ((vl0 96 ((60 * x1) + x2).toNatClampNeg)) else none else some ((-9223372036854775808))
theorem tX10_element {G : GT} {sv : SV} {vi0 : VI} {vl0 : VL} {ns : Nat} {x1 : Int32} {x2 : Int32} {r : Int64} (hW : WF sv ns) (h : fX10_element x1 x2 vi0 vl0 = some (r)) : Call G mX10_element 3 0 0 [.ref (G.1 + 63), .int x1, .int x2] sv vi0 vl0 (QJ r sv vi0 vl0) := by
  refine j_mk (by decide +kernel) (Nat.le_of_ble_eq_true rfl) (fun Γ B E => ?_)
  show J G Γ 0 0 0 [(0, .ref (G.1 + 63)), (1, .int x1), (2, .int x2)] [] sv vi0 vl0
  unfold fX10_element at h
  refine j_aload_n B dX10_element_0 rfl 0 rfl ?_
  refine j_iload_n B dX10_element_1 rfl 1 rfl ?_
  refine j_iload_n B dX10_element_2 rfl 2 rfl ?_
  obtain ⟨r1, hr1, h⟩ := h_bind h
  refine j_cVI (rest := []) B (tX10_whyNoPlace hW hr1) cls10 (wf_65 hW) jt_RX10_433 wi_X10_whyNoPlace ws_X10_whyNoPlace rfl (by decide) (Nat.le_refl _) (Nat.le_refl _) rfl (Nat.le_of_ble_eq_true rfl) dX10_element_3 ?_
  refine j_if_ge (tgt := 15) B dX10_element_6 (by decide) (fun c => ?_) (fun c => ?_)
  · replace h := h_pos c h
    refine j_aload_n B dX10_element_15 rfl 0 rfl ?_
    refine gf_RX10_111 B rfl (wf_65 hW) (wf_194 hW) dX10_element_16 ?_
    refine j_bipush B dX10_element_19 (v := 60) (by decide) ?_
    refine j_iload_n B dX10_element_21 rfl 1 rfl ?_
    refine j_imul B dX10_element_22 ?_
    refine j_iload_n B dX10_element_23 rfl 2 rfl ?_
    refine j_iadd B dX10_element_24 ?_
    obtain ⟨b2, h⟩ := h_inb h
    refine j_lald B ((wf_98 hW)) b2 dX10_element_25 ?_
    have e1 := Option.some.inj h
    subst e1
    exact j_lret B E rfl dX10_element_26 (Nat.le_refl _) (Nat.le_refl _) ⟨rfl, rfl, rfl, rfl⟩
  · replace h := h_neg c h
    refine j_ldc2 B wk_RX10_350 dX10_element_9 ?_
    refine j_goto (tgt := 26) B dX10_element_12 (by decide) ?_
    have e1 := Option.some.inj h
    subst e1
    exact j_lret B E rfl dX10_element_26 (Nat.le_refl _) (Nat.le_refl _) ⟨rfl, rfl, rfl, rfl⟩
def fX10_shift_150 (vi0 : VI) : Nat → Int32 → Int32 → Int32 → Int32 → VL → Option (Int32 × VL)
  | 0, _, _, _, _, _ => none
  | F + 1, x3, x4, x5, x6, vl => if x5 ≤ x6 then some (x5, vl) else if inb x6 60 = true then if inb (((60 * x3) + x4) + x6) 360 = true then fX10_shift_150 vi0 F x3 x4 x5 (x6 + 1) (j_up vl 96 (((60 * x3) + x4) + x6).toNatClampNeg (vl 97 x6.toNatClampNeg)) else none else none
theorem tX10_shift_150 {G : GT} {sv : SV} {vi0 : VI} {ns : Nat} {Γ : CT} {r : Int32} {vl' : VL} (B : Base G Γ mX10_shift 2 0 0) (E : Ends G Γ 0 0 (QI r sv vi0 vl')) (hW : WF sv ns) : ∀ (F : Nat) (x3 : Int32) (x4 : Int32) (x5 : Int32) (x6 : Int32) (vl : VL), fX10_shift_150 vi0 F x3 x4 x5 x6 vl = some (r, vl') → J G Γ 0 0 150 [(0, .ref (G.1 + 63)), (3, .int x3), (4, .int x4), (5, .int x5), (6, .int x6)] [] sv vi0 vl := by
  intro F
  induction F with
  | zero =>
    intro x3 x4 x5 x6 vl  h
    cases (show (none : Option (Int32 × VL)) = some (r, vl') from h)
  | succ F ih =>
    intro x3 x4 x5 x6 vl  h
    rw [fX10_shift_150] at h
    refine j_iload B dX10_shift_150 4 rfl ?_
    refine j_iload B dX10_shift_152 3 rfl ?_
    refine j_icmp_ge (tgt := 185) B dX10_shift_154 (by decide) (fun c => ?_) (fun c => ?_)
    · replace h := h_pos c h
      refine j_iload B dX10_shift_185 3 rfl ?_
      obtain ⟨e1, e2⟩ := Prod.mk.inj (Option.some.inj h)
      subst e1
      subst e2
      exact j_iret B E rfl dX10_shift_187 (Nat.le_refl _) (Nat.le_refl _) ⟨rfl, rfl, rfl, rfl⟩
    · replace h := h_neg c h
      refine j_aload_n B dX10_shift_157 rfl 0 rfl ?_
      refine gf_RX10_111 B rfl (wf_65 hW) (wf_194 hW) dX10_shift_158 ?_
      refine j_bipush B dX10_shift_161 (v := 60) (by decide) ?_
      refine j_iload_n B dX10_shift_163 rfl 1 rfl ?_
      refine j_imul B dX10_shift_164 ?_
      refine j_iload B dX10_shift_165 2 rfl ?_
      refine j_iadd B dX10_shift_167 ?_
      refine j_iload B dX10_shift_168 4 rfl ?_
      refine j_iadd B dX10_shift_170 ?_
      refine j_aload_n B dX10_shift_171 rfl 0 rfl ?_
      refine gf_RX10_114 B rfl (wf_65 hW) (wf_195 hW) dX10_shift_172 ?_
      refine j_iload B dX10_shift_175 4 rfl ?_
      obtain ⟨b10, h⟩ := h_inb h
      refine j_lald B ((wf_99 hW)) b10 dX10_shift_177 ?_
      obtain ⟨b11, h⟩ := h_inb h
      refine j_last B ((wf_98 hW)) b11 dX10_shift_178 ?_
      refine j_iinc (v := (x6 + 1)) (L' := [(6, .int (x6 + 1)), (0, .ref (G.1 + 63)), (3, .int x3), (4, .int x4), (5, .int x5)]) B dX10_shift_179 4 rfl rfl (by decide) rfl ?_
      refine j_goto (tgt := 150) B dX10_shift_182 (by decide) ?_
      refine j_locals [1, 2, 3, 4, 0] rfl ?_
      exact ih (x3) (x4) (x5) ((x6 + 1)) ((j_up vl 96 (((60 * x3) + x4) + x6).toNatClampNeg (vl 97 x6.toNatClampNeg)))  h
def fX10_shift_113 (vi0 : VI) : Nat → Int32 → Int32 → Int32 → Int32 → Int32 → Int32 → VL → Option (Int32 × VL)
  | 0, _, _, _, _, _, _, _ => none
  | F + 1, x1, x2, x3, x4, x5, x6, vl => if x5 ≤ x6 then fX10_shift_150 vi0 FU x3 x4 x5 0 vl else if inb (((60 * x1) + x2) + x6) 360 = true then if inb x6 60 = true then fX10_shift_113 vi0 F x1 x2 x3 x4 x5 (x6 + 1) (j_up vl 97 x6.toNatClampNeg (vl 96 (((60 * x1) + x2) + x6).toNatClampNeg)) else none else none
theorem tX10_shift_113 {G : GT} {sv : SV} {vi0 : VI} {ns : Nat} {Γ : CT} {r : Int32} {vl' : VL} (B : Base G Γ mX10_shift 2 0 0) (E : Ends G Γ 0 0 (QI r sv vi0 vl')) (hW : WF sv ns) : ∀ (F : Nat) (x1 : Int32) (x2 : Int32) (x3 : Int32) (x4 : Int32) (x5 : Int32) (x6 : Int32) (vl : VL), fX10_shift_113 vi0 F x1 x2 x3 x4 x5 x6 vl = some (r, vl') → J G Γ 0 0 113 [(0, .ref (G.1 + 63)), (1, .int x1), (2, .int x2), (3, .int x3), (4, .int x4), (5, .int x5), (6, .int x6)] [] sv vi0 vl := by
  intro F
  induction F with
  | zero =>
    intro x1 x2 x3 x4 x5 x6 vl  h
    cases (show (none : Option (Int32 × VL)) = some (r, vl') from h)
  | succ F ih =>
    intro x1 x2 x3 x4 x5 x6 vl  h
    rw [fX10_shift_113] at h
    refine j_iload B dX10_shift_113 6 rfl ?_
    refine j_iload B dX10_shift_115 5 rfl ?_
    refine j_icmp_ge (tgt := 147) B dX10_shift_117 (by decide) (fun c => ?_) (fun c => ?_)
    · replace h := h_pos c h
      refine j_iconst B dX10_shift_147 (v := 0) (by decide) ?_
      refine j_istore (L' := [(6, .int 0), (0, .ref (G.1 + 63)), (1, .int x1), (2, .int x2), (3, .int x3), (4, .int x4), (5, .int x5)]) B dX10_shift_148 (by decide) rfl ?_
      refine j_locals [1, 4, 5, 6, 0] rfl ?_
      exact tX10_shift_150 B E hW FU (x3) (x4) (x5) (0) (vl)  h
    · replace h := h_neg c h
      refine j_aload_n B dX10_shift_120 rfl 0 rfl ?_
      refine gf_RX10_114 B rfl (wf_65 hW) (wf_195 hW) dX10_shift_121 ?_
      refine j_iload B dX10_shift_124 6 rfl ?_
      refine j_aload_n B dX10_shift_126 rfl 0 rfl ?_
      refine gf_RX10_111 B rfl (wf_65 hW) (wf_194 hW) dX10_shift_127 ?_
      refine j_bipush B dX10_shift_130 (v := 60) (by decide) ?_
      refine j_iload_n B dX10_shift_132 rfl 1 rfl ?_
      refine j_imul B dX10_shift_133 ?_
      refine j_iload_n B dX10_shift_134 rfl 2 rfl ?_
      refine j_iadd B dX10_shift_135 ?_
      refine j_iload B dX10_shift_136 6 rfl ?_
      refine j_iadd B dX10_shift_138 ?_
      obtain ⟨b12, h⟩ := h_inb h
      refine j_lald B ((wf_98 hW)) b12 dX10_shift_139 ?_
      obtain ⟨b13, h⟩ := h_inb h
      refine j_last B ((wf_99 hW)) b13 dX10_shift_140 ?_
      refine j_iinc (v := (x6 + 1)) (L' := [(6, .int (x6 + 1)), (0, .ref (G.1 + 63)), (1, .int x1), (2, .int x2), (3, .int x3), (4, .int x4), (5, .int x5)]) B dX10_shift_141 6 rfl rfl (by decide) rfl ?_
      refine j_goto (tgt := 113) B dX10_shift_144 (by decide) ?_
      refine j_locals [1, 2, 3, 4, 5, 6, 0] rfl ?_
      exact ih (x1) (x2) (x3) (x4) (x5) ((x6 + 1)) ((j_up vl 97 x6.toNatClampNeg (vl 96 (((60 * x1) + x2) + x6).toNatClampNeg)))  h
def fX10_shift (x1 : Int32) (x2 : Int32) (x3 : Int32) (x4 : Int32) (x5 : Int32) (vi0 : VI) (vl0 : VL) : Option (Int32 × VL) := (fX10_isShelf x1).bind fun r1 => if r1 = true then (fX10_isShelf x3).bind fun r2 => if r2 = true then if inb x1 6 = true then if (vi0 94 x1.toNatClampNeg) = (-1) then some ((-11), vl0) else if inb x3 6 = true then if (vi0 94 x3.toNatClampNeg) = (-1) then some ((-11), vl0) else if inb x1 6 = true then if 0 ≤ (vi0 94 x1.toNatClampNeg) then some ((-12), vl0) else if inb x1 6 = true then if inb x3 6 = true then if (vi0 94 x1.toNatClampNeg) = (vi0 94 x3.toNatClampNeg) then if x5 < 0 then some ((-13), vl0) else if x2 < 0 then some ((-13), vl0) else if x4 < 0 then some ((-13), vl0) else if inb x1 6 = true then if ((vi0 95 x1.toNatClampNeg) - x5) < x2 then some ((-13), vl0) else if inb x3 6 = true then if x4 ≤ ((vi0 95 x3.toNatClampNeg) - x5) then fX10_shift_113 vi0 FU x1 x2 x3 x4 x5 0 vl0 else some ((-13), vl0) else none else none else some ((-12), vl0) else none else none else none else none else none else some ((-1), vl0) else some ((-1), vl0)
theorem tX10_shift {G : GT} {sv : SV} {vi0 : VI} {vl0 : VL} {ns : Nat} {x1 : Int32} {x2 : Int32} {x3 : Int32} {x4 : Int32} {x5 : Int32} {r : Int32} {vl' : VL} (hW : WF sv ns) (h : fX10_shift x1 x2 x3 x4 x5 vi0 vl0 = some (r, vl')) : Call G mX10_shift 2 0 0 [.ref (G.1 + 63), .int x1, .int x2, .int x3, .int x4, .int x5] sv vi0 vl0 (QI r sv vi0 vl') := by
  refine j_mk (by decide +kernel) (Nat.le_of_ble_eq_true rfl) (fun Γ B E => ?_)
  show J G Γ 0 0 0 [(0, .ref (G.1 + 63)), (1, .int x1), (2, .int x2), (3, .int x3), (4, .int x4), (5, .int x5)] [] sv vi0 vl0
  unfold fX10_shift at h
  refine j_iload_n B dX10_shift_0 rfl 1 rfl ?_
  obtain ⟨r1, hr1, h⟩ := h_bind h
  refine j_cSI (rest := []) B (tX10_isShelf hr1) jt_RX10_132 wst_X10_isShelf rfl (by decide) (Nat.le_refl _) (Nat.le_refl _) rfl (Nat.le_of_ble_eq_true rfl) dX10_shift_1 ?_
  refine j_if_eq (tgt := 14) B dX10_shift_4 (by decide) (fun c => ?_) (fun c => ?_)
  · replace h := h_neg (b2i_0 c) h
    refine j_iconst B dX10_shift_14 (v := (-1)) (by decide) ?_
    obtain ⟨e1, e2⟩ := Prod.mk.inj (Option.some.inj h)
    subst e1
    subst e2
    exact j_iret B E rfl dX10_shift_15 (Nat.le_refl _) (Nat.le_refl _) ⟨rfl, rfl, rfl, rfl⟩
  · replace h := h_pos (b2i_1 c) h
    refine j_iload_n B dX10_shift_7 rfl 3 rfl ?_
    obtain ⟨r2, hr2, h⟩ := h_bind h
    refine j_cSI (rest := []) B (tX10_isShelf hr2) jt_RX10_132 wst_X10_isShelf rfl (by decide) (Nat.le_refl _) (Nat.le_refl _) rfl (Nat.le_of_ble_eq_true rfl) dX10_shift_8 ?_
    refine j_if_ne (tgt := 16) B dX10_shift_11 (by decide) (fun c => ?_) (fun c => ?_)
    · replace h := h_pos (b2i_1 c) h
      refine j_aload_n B dX10_shift_16 rfl 0 rfl ?_
      refine gf_RX10_105 B rfl (wf_65 hW) (wf_192 hW) dX10_shift_17 ?_
      refine j_iload_n B dX10_shift_20 rfl 1 rfl ?_
      obtain ⟨b3, h⟩ := h_inb h
      refine j_iald B ((wf_96 hW)) b3 dX10_shift_21 ?_
      refine j_iconst B dX10_shift_22 (v := (-1)) (by decide) ?_
      refine j_icmp_eq (tgt := 36) B dX10_shift_23 (by decide) (fun c => ?_) (fun c => ?_)
      · replace h := h_pos c h
        refine j_bipush B dX10_shift_36 (v := (-11)) (by decide) ?_
        obtain ⟨e1, e2⟩ := Prod.mk.inj (Option.some.inj h)
        subst e1
        subst e2
        exact j_iret B E rfl dX10_shift_38 (Nat.le_refl _) (Nat.le_refl _) ⟨rfl, rfl, rfl, rfl⟩
      · replace h := h_neg c h
        refine j_aload_n B dX10_shift_26 rfl 0 rfl ?_
        refine gf_RX10_105 B rfl (wf_65 hW) (wf_192 hW) dX10_shift_27 ?_
        refine j_iload_n B dX10_shift_30 rfl 3 rfl ?_
        obtain ⟨b4, h⟩ := h_inb h
        refine j_iald B ((wf_96 hW)) b4 dX10_shift_31 ?_
        refine j_iconst B dX10_shift_32 (v := (-1)) (by decide) ?_
        refine j_icmp_ne (tgt := 39) B dX10_shift_33 (by decide) (fun c => ?_) (fun c => ?_)
        · replace h := h_neg c h
          refine j_aload_n B dX10_shift_39 rfl 0 rfl ?_
          refine gf_RX10_105 B rfl (wf_65 hW) (wf_192 hW) dX10_shift_40 ?_
          refine j_iload_n B dX10_shift_43 rfl 1 rfl ?_
          obtain ⟨b5, h⟩ := h_inb h
          refine j_iald B ((wf_96 hW)) b5 dX10_shift_44 ?_
          refine j_if_ge (tgt := 63) B dX10_shift_45 (by decide) (fun c => ?_) (fun c => ?_)
          · replace h := h_pos c h
            refine j_bipush B dX10_shift_63 (v := (-12)) (by decide) ?_
            obtain ⟨e1, e2⟩ := Prod.mk.inj (Option.some.inj h)
            subst e1
            subst e2
            exact j_iret B E rfl dX10_shift_65 (Nat.le_refl _) (Nat.le_refl _) ⟨rfl, rfl, rfl, rfl⟩
          · replace h := h_neg c h
            refine j_aload_n B dX10_shift_48 rfl 0 rfl ?_
            refine gf_RX10_105 B rfl (wf_65 hW) (wf_192 hW) dX10_shift_49 ?_
            refine j_iload_n B dX10_shift_52 rfl 1 rfl ?_
            obtain ⟨b6, h⟩ := h_inb h
            refine j_iald B ((wf_96 hW)) b6 dX10_shift_53 ?_
            refine j_aload_n B dX10_shift_54 rfl 0 rfl ?_
            refine gf_RX10_105 B rfl (wf_65 hW) (wf_192 hW) dX10_shift_55 ?_
            refine j_iload_n B dX10_shift_58 rfl 3 rfl ?_
            obtain ⟨b7, h⟩ := h_inb h
            refine j_iald B ((wf_96 hW)) b7 dX10_shift_59 ?_
            refine j_icmp_eq (tgt := 66) B dX10_shift_60 (by decide) (fun c => ?_) (fun c => ?_)
            · replace h := h_pos c h
              refine j_iload B dX10_shift_66 5 rfl ?_
              refine j_if_lt (tgt := 107) B dX10_shift_68 (by decide) (fun c => ?_) (fun c => ?_)
              · replace h := h_pos c h
                refine j_bipush B dX10_shift_107 (v := (-13)) (by decide) ?_
                obtain ⟨e1, e2⟩ := Prod.mk.inj (Option.some.inj h)
                subst e1
                subst e2
                exact j_iret B E rfl dX10_shift_109 (Nat.le_refl _) (Nat.le_refl _) ⟨rfl, rfl, rfl, rfl⟩
              · replace h := h_neg c h
                refine j_iload_n B dX10_shift_71 rfl 2 rfl ?_
                refine j_if_lt (tgt := 107) B dX10_shift_72 (by decide) (fun c => ?_) (fun c => ?_)
                · replace h := h_pos c h
                  refine j_bipush B dX10_shift_107 (v := (-13)) (by decide) ?_
                  obtain ⟨e1, e2⟩ := Prod.mk.inj (Option.some.inj h)
                  subst e1
                  subst e2
                  exact j_iret B E rfl dX10_shift_109 (Nat.le_refl _) (Nat.le_refl _) ⟨rfl, rfl, rfl, rfl⟩
                · replace h := h_neg c h
                  refine j_iload B dX10_shift_75 4 rfl ?_
                  refine j_if_lt (tgt := 107) B dX10_shift_77 (by decide) (fun c => ?_) (fun c => ?_)
                  · replace h := h_pos c h
                    refine j_bipush B dX10_shift_107 (v := (-13)) (by decide) ?_
                    obtain ⟨e1, e2⟩ := Prod.mk.inj (Option.some.inj h)
                    subst e1
                    subst e2
                    exact j_iret B E rfl dX10_shift_109 (Nat.le_refl _) (Nat.le_refl _) ⟨rfl, rfl, rfl, rfl⟩
                  · replace h := h_neg c h
                    refine j_iload_n B dX10_shift_80 rfl 2 rfl ?_
                    refine j_aload_n B dX10_shift_81 rfl 0 rfl ?_
                    refine gf_RX10_108 B rfl (wf_65 hW) (wf_193 hW) dX10_shift_82 ?_
                    refine j_iload_n B dX10_shift_85 rfl 1 rfl ?_
                    obtain ⟨b8, h⟩ := h_inb h
                    refine j_iald B ((wf_97 hW)) b8 dX10_shift_86 ?_
                    refine j_iload B dX10_shift_87 5 rfl ?_
                    refine j_isub B dX10_shift_89 ?_
                    refine j_icmp_gt (tgt := 107) B dX10_shift_90 (by decide) (fun c => ?_) (fun c => ?_)
                    · replace h := h_pos c h
                      refine j_bipush B dX10_shift_107 (v := (-13)) (by decide) ?_
                      obtain ⟨e1, e2⟩ := Prod.mk.inj (Option.some.inj h)
                      subst e1
                      subst e2
                      exact j_iret B E rfl dX10_shift_109 (Nat.le_refl _) (Nat.le_refl _) ⟨rfl, rfl, rfl, rfl⟩
                    · replace h := h_neg c h
                      refine j_iload B dX10_shift_93 4 rfl ?_
                      refine j_aload_n B dX10_shift_95 rfl 0 rfl ?_
                      refine gf_RX10_108 B rfl (wf_65 hW) (wf_193 hW) dX10_shift_96 ?_
                      refine j_iload_n B dX10_shift_99 rfl 3 rfl ?_
                      obtain ⟨b9, h⟩ := h_inb h
                      refine j_iald B ((wf_97 hW)) b9 dX10_shift_100 ?_
                      refine j_iload B dX10_shift_101 5 rfl ?_
                      refine j_isub B dX10_shift_103 ?_
                      refine j_icmp_le (tgt := 110) B dX10_shift_104 (by decide) (fun c => ?_) (fun c => ?_)
                      · replace h := h_pos c h
                        refine j_iconst B dX10_shift_110 (v := 0) (by decide) ?_
                        refine j_istore (L' := [(6, .int 0), (0, .ref (G.1 + 63)), (1, .int x1), (2, .int x2), (3, .int x3), (4, .int x4), (5, .int x5)]) B dX10_shift_111 (by decide) rfl ?_
                        refine j_locals [1, 2, 3, 4, 5, 6, 0] rfl ?_
                        exact tX10_shift_113 B E hW FU (x1) (x2) (x3) (x4) (x5) (0) (vl0)  h
                      · replace h := h_neg c h
                        refine j_bipush B dX10_shift_107 (v := (-13)) (by decide) ?_
                        obtain ⟨e1, e2⟩ := Prod.mk.inj (Option.some.inj h)
                        subst e1
                        subst e2
                        exact j_iret B E rfl dX10_shift_109 (Nat.le_refl _) (Nat.le_refl _) ⟨rfl, rfl, rfl, rfl⟩
            · replace h := h_neg c h
              refine j_bipush B dX10_shift_63 (v := (-12)) (by decide) ?_
              obtain ⟨e1, e2⟩ := Prod.mk.inj (Option.some.inj h)
              subst e1
              subst e2
              exact j_iret B E rfl dX10_shift_65 (Nat.le_refl _) (Nat.le_refl _) ⟨rfl, rfl, rfl, rfl⟩
        · replace h := h_pos c h
          refine j_bipush B dX10_shift_36 (v := (-11)) (by decide) ?_
          obtain ⟨e1, e2⟩ := Prod.mk.inj (Option.some.inj h)
          subst e1
          subst e2
          exact j_iret B E rfl dX10_shift_38 (Nat.le_refl _) (Nat.le_refl _) ⟨rfl, rfl, rfl, rfl⟩
    · replace h := h_neg (b2i_0 c) h
      refine j_iconst B dX10_shift_14 (v := (-1)) (by decide) ?_
      obtain ⟨e1, e2⟩ := Prod.mk.inj (Option.some.inj h)
      subst e1
      subst e2
      exact j_iret B E rfl dX10_shift_15 (Nat.le_refl _) (Nat.le_refl _) ⟨rfl, rfl, rfl, rfl⟩
def fX10_taken (x1 : Int32) (x2 : Int32) (vi0 : VI) : Option (Int32) := (fX10_isShelf x1).bind fun r1 => if r1 = true then (fX10_in x2 0 7).bind fun r2 => if r2 = true then if inb x1 6 = true then if (vi0 94 x1.toNatClampNeg) = (-1) then some ((-11)) else if inb x1 6 = true then if (vi0 94 x1.toNatClampNeg) < 0 then some ((-12)) else if inb x1 6 = true then if inb (vi0 94 x1.toNatClampNeg) 50 = true then (fX10_isUnder (vi0 92 (vi0 94 x1.toNatClampNeg).toNatClampNeg) x2).bind fun r7 => if r7 = true then if inb x1 6 = true then if inb (vi0 94 x1.toNatClampNeg) 50 = true then some ((vi0 92 (vi0 94 x1.toNatClampNeg).toNatClampNeg)) else none else none else some ((-12)) else none else none else none else none else some ((-1)) else some ((-1))
theorem tX10_taken {G : GT} {sv : SV} {vi0 : VI} {vl0 : VL} {ns : Nat} {x1 : Int32} {x2 : Int32} {r : Int32} (hW : WF sv ns) (h : fX10_taken x1 x2 vi0 = some (r)) : Call G mX10_taken 2 0 0 [.ref (G.1 + 63), .int x1, .int x2] sv vi0 vl0 (QI r sv vi0 vl0) := by
  refine j_mk (by decide +kernel) (Nat.le_of_ble_eq_true rfl) (fun Γ B E => ?_)
  show J G Γ 0 0 0 [(0, .ref (G.1 + 63)), (1, .int x1), (2, .int x2)] [] sv vi0 vl0
  unfold fX10_taken at h
  refine j_iload_n B dX10_taken_0 rfl 1 rfl ?_
  obtain ⟨r1, hr1, h⟩ := h_bind h
  refine j_cSI (rest := []) B (tX10_isShelf hr1) jt_RX10_132 wst_X10_isShelf rfl (by decide) (Nat.le_refl _) (Nat.le_refl _) rfl (Nat.le_of_ble_eq_true rfl) dX10_taken_1 ?_
  refine j_if_eq (tgt := 17) B dX10_taken_4 (by decide) (fun c => ?_) (fun c => ?_)
  · replace h := h_neg (b2i_0 c) h
    refine j_iconst B dX10_taken_17 (v := (-1)) (by decide) ?_
    have e1 := Option.some.inj h
    subst e1
    exact j_iret B E rfl dX10_taken_18 (Nat.le_refl _) (Nat.le_refl _) ⟨rfl, rfl, rfl, rfl⟩
  · replace h := h_pos (b2i_1 c) h
    refine j_iload_n B dX10_taken_7 rfl 2 rfl ?_
    refine j_iconst B dX10_taken_8 (v := 0) (by decide) ?_
    refine j_bipush B dX10_taken_9 (v := 7) (by decide) ?_
    obtain ⟨r2, hr2, h⟩ := h_bind h
    refine j_cSI (rest := []) B (tX10_in hr2) jt_RX10_124 wst_X10_in rfl (by decide) (Nat.le_refl _) (Nat.le_refl _) rfl (Nat.le_of_ble_eq_true rfl) dX10_taken_11 ?_
    refine j_if_ne (tgt := 19) B dX10_taken_14 (by decide) (fun c => ?_) (fun c => ?_)
    · replace h := h_pos (b2i_1 c) h
      refine j_aload_n B dX10_taken_19 rfl 0 rfl ?_
      refine gf_RX10_105 B rfl (wf_65 hW) (wf_192 hW) dX10_taken_20 ?_
      refine j_iload_n B dX10_taken_23 rfl 1 rfl ?_
      obtain ⟨b3, h⟩ := h_inb h
      refine j_iald B ((wf_96 hW)) b3 dX10_taken_24 ?_
      refine j_iconst B dX10_taken_25 (v := (-1)) (by decide) ?_
      refine j_icmp_ne (tgt := 32) B dX10_taken_26 (by decide) (fun c => ?_) (fun c => ?_)
      · replace h := h_neg c h
        refine j_aload_n B dX10_taken_32 rfl 0 rfl ?_
        refine gf_RX10_105 B rfl (wf_65 hW) (wf_192 hW) dX10_taken_33 ?_
        refine j_iload_n B dX10_taken_36 rfl 1 rfl ?_
        obtain ⟨b4, h⟩ := h_inb h
        refine j_iald B ((wf_96 hW)) b4 dX10_taken_37 ?_
        refine j_if_lt (tgt := 73) B dX10_taken_38 (by decide) (fun c => ?_) (fun c => ?_)
        · replace h := h_pos c h
          refine j_bipush B dX10_taken_73 (v := (-12)) (by decide) ?_
          have e1 := Option.some.inj h
          subst e1
          exact j_iret B E rfl dX10_taken_75 (Nat.le_refl _) (Nat.le_refl _) ⟨rfl, rfl, rfl, rfl⟩
        · replace h := h_neg c h
          refine j_aload_n B dX10_taken_41 rfl 0 rfl ?_
          refine gf_RX10_99 B rfl (wf_65 hW) (wf_190 hW) dX10_taken_42 ?_
          refine j_aload_n B dX10_taken_45 rfl 0 rfl ?_
          refine gf_RX10_105 B rfl (wf_65 hW) (wf_192 hW) dX10_taken_46 ?_
          refine j_iload_n B dX10_taken_49 rfl 1 rfl ?_
          obtain ⟨b5, h⟩ := h_inb h
          refine j_iald B ((wf_96 hW)) b5 dX10_taken_50 ?_
          obtain ⟨b6, h⟩ := h_inb h
          refine j_iald B ((wf_94 hW)) b6 dX10_taken_51 ?_
          refine j_iload_n B dX10_taken_52 rfl 2 rfl ?_
          obtain ⟨r7, hr7, h⟩ := h_bind h
          refine j_cSI (rest := []) B (tX10_isUnder hr7) jt_RX10_397 wst_X10_isUnder rfl (by decide) (Nat.le_refl _) (Nat.le_refl _) rfl (Nat.le_of_ble_eq_true rfl) dX10_taken_53 ?_
          refine j_if_eq (tgt := 73) B dX10_taken_56 (by decide) (fun c => ?_) (fun c => ?_)
          · replace h := h_neg (b2i_0 c) h
            refine j_bipush B dX10_taken_73 (v := (-12)) (by decide) ?_
            have e1 := Option.some.inj h
            subst e1
            exact j_iret B E rfl dX10_taken_75 (Nat.le_refl _) (Nat.le_refl _) ⟨rfl, rfl, rfl, rfl⟩
          · replace h := h_pos (b2i_1 c) h
            refine j_aload_n B dX10_taken_59 rfl 0 rfl ?_
            refine gf_RX10_99 B rfl (wf_65 hW) (wf_190 hW) dX10_taken_60 ?_
            refine j_aload_n B dX10_taken_63 rfl 0 rfl ?_
            refine gf_RX10_105 B rfl (wf_65 hW) (wf_192 hW) dX10_taken_64 ?_
            refine j_iload_n B dX10_taken_67 rfl 1 rfl ?_
            obtain ⟨b8, h⟩ := h_inb h
            refine j_iald B ((wf_96 hW)) b8 dX10_taken_68 ?_
            obtain ⟨b9, h⟩ := h_inb h
            refine j_iald B ((wf_94 hW)) b9 dX10_taken_69 ?_
            refine j_goto (tgt := 75) B dX10_taken_70 (by decide) ?_
            have e1 := Option.some.inj h
            subst e1
            exact j_iret B E rfl dX10_taken_75 (Nat.le_refl _) (Nat.le_refl _) ⟨rfl, rfl, rfl, rfl⟩
      · replace h := h_pos c h
        refine j_bipush B dX10_taken_29 (v := (-11)) (by decide) ?_
        have e1 := Option.some.inj h
        subst e1
        exact j_iret B E rfl dX10_taken_31 (Nat.le_refl _) (Nat.le_refl _) ⟨rfl, rfl, rfl, rfl⟩
    · replace h := h_neg (b2i_0 c) h
      refine j_iconst B dX10_taken_17 (v := (-1)) (by decide) ?_
      have e1 := Option.some.inj h
      subst e1
      exact j_iret B E rfl dX10_taken_18 (Nat.le_refl _) (Nat.le_refl _) ⟨rfl, rfl, rfl, rfl⟩
