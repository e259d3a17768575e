def fX10_blow (x1 : Int32) (x2 : Int32) (vi0 : VI) : Option (Int32 × VI) := (fX10_isSill x1 vi0).bind fun r1 => if r1 = true then (fX10_in x2 0 99).bind fun r2 => if r2 = true then (fX10_layNow x1 vi0).bind fun r3 => (fX10_goBreath x2 r3).bind fun r4 => (fX10_keepSill r4.2).bind fun r5 => some (r4.1, (j_up r5 87 (2 : Int32).toNatClampNeg ((r5 87 (2 : Int32).toNatClampNeg) + r4.1))) else some ((-1), vi0) else some ((-1), vi0)
theorem tX10_blow {G : GT} {sv : SV} {vi0 : VI} {vl0 : VL} {ns : Nat} {x1 : Int32} {x2 : Int32} {r : Int32} {vi' : VI} (hW : WF sv ns) (h : fX10_blow x1 x2 vi0 = some (r, vi')) : Call G mX10_blow 2 0 0 [.ref (G.1 + 63), .int x1, .int x2] sv vi0 vl0 (QI r sv vi' vl0) := by
  refine j_mk (by decide +kernel) (Nat.le_of_ble_eq_true rfl) (fun Γ B E => ?_)
  show J G Γ 0 0 0 [(0, .ref (G.1 + 63)), (1, .int x1), (2, .int x2)] [] sv vi0 vl0
  unfold fX10_blow at h
  refine j_aload_n B dX10_blow_0 rfl 0 rfl ?_
  refine j_iload_n B dX10_blow_1 rfl 1 rfl ?_
  obtain ⟨r1, hr1, h⟩ := h_bind h
  refine j_cVI (rest := []) B (tX10_isSill hW hr1) cls10 (wf_65 hW) jt_RX10_152 wi_X10_isSill ws_X10_isSill rfl (by decide) (Nat.le_refl _) (Nat.le_refl _) rfl (Nat.le_of_ble_eq_true rfl) dX10_blow_2 ?_
  refine j_if_eq (tgt := 18) B dX10_blow_5 (by decide) (fun c => ?_) (fun c => ?_)
  · replace h := h_neg (b2i_0 c) h
    refine j_iconst B dX10_blow_18 (v := (-1)) (by decide) ?_
    obtain ⟨e1, e2⟩ := Prod.mk.inj (Option.some.inj h)
    subst e1
    subst e2
    exact j_iret B E rfl dX10_blow_19 (Nat.le_refl _) (Nat.le_refl _) ⟨rfl, rfl, rfl, rfl⟩
  · replace h := h_pos (b2i_1 c) h
    refine j_iload_n B dX10_blow_8 rfl 2 rfl ?_
    refine j_iconst B dX10_blow_9 (v := 0) (by decide) ?_
    refine j_bipush B dX10_blow_10 (v := 99) (by decide) ?_
    obtain ⟨r2, hr2, h⟩ := h_bind h
    refine j_cSI (rest := []) B (tX10_in hr2) jt_RX10_124 wst_X10_in rfl (by decide) (Nat.le_refl _) (Nat.le_refl _) rfl (Nat.le_of_ble_eq_true rfl) dX10_blow_12 ?_
    refine j_if_ne (tgt := 20) B dX10_blow_15 (by decide) (fun c => ?_) (fun c => ?_)
    · replace h := h_pos (b2i_1 c) h
      refine j_aload_n B dX10_blow_20 rfl 0 rfl ?_
      refine j_iload_n B dX10_blow_21 rfl 1 rfl ?_
      obtain ⟨r3, hr3, h⟩ := h_bind h
      refine j_cVV (rest := []) B (tX10_layNow hW hr3) cls10 (wf_65 hW) jt_RX10_169 wi_X10_layNow ws_X10_layNow rfl (by decide) (Nat.le_refl _) (Nat.le_refl _) rfl (Nat.le_of_ble_eq_true rfl) dX10_blow_22 ?_
      refine j_aload_n B dX10_blow_25 rfl 0 rfl ?_
      refine j_iload_n B dX10_blow_26 rfl 2 rfl ?_
      obtain ⟨r4, hr4, h⟩ := h_bind h
      refine j_cVI (rest := []) B (tX10_goBreath hW hr4) cls10 (wf_65 hW) jt_RX10_305 wi_X10_goBreath ws_X10_goBreath rfl (by decide) (Nat.le_refl _) (Nat.le_refl _) rfl (Nat.le_of_ble_eq_true rfl) dX10_blow_27 ?_
      refine j_istore_n (L' := [(3, .int r4.1), (0, .ref (G.1 + 63)), (1, .int x1), (2, .int x2)]) B dX10_blow_30 rfl (by decide) rfl ?_
      refine j_aload_n B dX10_blow_31 rfl 1 rfl ?_
      obtain ⟨r5, hr5, h⟩ := h_bind h
      refine j_cVV (rest := []) B (tX10_keepSill hW hr5) cls10 (wf_65 hW) jt_RX10_376 wi_X10_keepSill ws_X10_keepSill rfl (by decide) (Nat.le_refl _) (Nat.le_refl _) rfl (Nat.le_of_ble_eq_true rfl) dX10_blow_32 ?_
      refine j_aload_n B dX10_blow_35 rfl 1 rfl ?_
      refine gf_RX10_84 B rfl (wf_65 hW) (wf_185 hW) dX10_blow_36 ?_
      refine j_iconst B dX10_blow_39 (v := 2) (by decide) ?_
      refine j_dup2 B dX10_blow_40 rfl rfl ?_
      refine j_iald B ((wf_89 hW)) (vp_in_iff.mpr ⟨by decide, by decide⟩) dX10_blow_41 ?_
      refine j_iload_n B dX10_blow_42 rfl 0 rfl ?_
      refine j_iadd B dX10_blow_43 ?_
      refine j_iast B ((wf_89 hW)) (vp_in_iff.mpr ⟨by decide, by decide⟩) dX10_blow_44 ?_
      refine j_iload_n B dX10_blow_45 rfl 0 rfl ?_
      obtain ⟨e1, e2⟩ := Prod.mk.inj (Option.some.inj h)
      subst e1
      subst e2
      exact j_iret B E rfl dX10_blow_46 (Nat.le_refl _) (Nat.le_refl _) ⟨rfl, rfl, rfl, rfl⟩
    · replace h := h_neg (b2i_0 c) h
      refine j_iconst B dX10_blow_18 (v := (-1)) (by decide) ?_
      obtain ⟨e1, e2⟩ := Prod.mk.inj (Option.some.inj h)
      subst e1
      subst e2
      exact j_iret B E rfl dX10_blow_19 (Nat.le_refl _) (Nat.le_refl _) ⟨rfl, rfl, rfl, rfl⟩
def fX10_sweep (x1 : Int32) (vi0 : VI) : Option (Int32 × VI) := (fX10_isSill x1 vi0).bind fun r1 => if r1 = true then (fX10_layNow x1 vi0).bind fun r2 => (fX10_allThick r2).bind fun r3 => if inb x1 5 = true then some (r3, (j_up (j_up (j_up r2 67 x1.toNatClampNeg 0) 87 (3 : Int32).toNatClampNeg (((j_up r2 67 x1.toNatClampNeg 0) 87 (3 : Int32).toNatClampNeg) + r3)) 87 (4 : Int32).toNatClampNeg (((j_up (j_up r2 67 x1.toNatClampNeg 0) 87 (3 : Int32).toNatClampNeg (((j_up r2 67 x1.toNatClampNeg 0) 87 (3 : Int32).toNatClampNeg) + r3)) 87 (4 : Int32).toNatClampNeg) + 1))) else none else some ((-1), vi0)
theorem tX10_sweep {G : GT} {sv : SV} {vi0 : VI} {vl0 : VL} {ns : Nat} {x1 : Int32} {r : Int32} {vi' : VI} (hW : WF sv ns) (h : fX10_sweep x1 vi0 = some (r, vi')) : Call G mX10_sweep 2 0 0 [.ref (G.1 + 63), .int x1] sv vi0 vl0 (QI r sv vi' vl0) := by
  refine j_mk (by decide +kernel) (Nat.le_of_ble_eq_true rfl) (fun Γ B E => ?_)
  show J G Γ 0 0 0 [(0, .ref (G.1 + 63)), (1, .int x1)] [] sv vi0 vl0
  unfold fX10_sweep at h
  refine j_aload_n B dX10_sweep_0 rfl 0 rfl ?_
  refine j_iload_n B dX10_sweep_1 rfl 1 rfl ?_
  obtain ⟨r1, hr1, h⟩ := h_bind h
  refine j_cVI (rest := []) B (tX10_isSill hW hr1) cls10 (wf_65 hW) jt_RX10_152 wi_X10_isSill ws_X10_isSill rfl (by decide) (Nat.le_refl _) (Nat.le_refl _) rfl (Nat.le_of_ble_eq_true rfl) dX10_sweep_2 ?_
  refine j_if_ne (tgt := 10) B dX10_sweep_5 (by decide) (fun c => ?_) (fun c => ?_)
  · replace h := h_pos (b2i_1 c) h
    refine j_aload_n B dX10_sweep_10 rfl 0 rfl ?_
    refine j_iload_n B dX10_sweep_11 rfl 1 rfl ?_
    obtain ⟨r2, hr2, h⟩ := h_bind h
    refine j_cVV (rest := []) B (tX10_layNow hW hr2) cls10 (wf_65 hW) jt_RX10_169 wi_X10_layNow ws_X10_layNow rfl (by decide) (Nat.le_refl _) (Nat.le_refl _) rfl (Nat.le_of_ble_eq_true rfl) dX10_sweep_12 ?_
    refine j_aload_n B dX10_sweep_15 rfl 0 rfl ?_
    obtain ⟨r3, hr3, h⟩ := h_bind h
    refine j_cVI (rest := []) B (tX10_allThick hW hr3) cls10 (wf_65 hW) jt_RX10_176 wi_X10_allThick ws_X10_allThick rfl (by decide) (Nat.le_refl _) (Nat.le_refl _) rfl (Nat.le_of_ble_eq_true rfl) dX10_sweep_16 ?_
    refine j_istore_n (L' := [(2, .int r3), (0, .ref (G.1 + 63)), (1, .int x1)]) B dX10_sweep_19 rfl (by decide) rfl ?_
    refine j_aload_n B dX10_sweep_20 rfl 1 rfl ?_
    refine gf_RX10_21 B rfl (wf_65 hW) (wf_165 hW) dX10_sweep_21 ?_
    refine j_iload_n B dX10_sweep_24 rfl 2 rfl ?_
    refine j_iconst B dX10_sweep_25 (v := 0) (by decide) ?_
    obtain ⟨b4, h⟩ := h_inb h
    refine j_iast B ((wf_69 hW)) b4 dX10_sweep_26 ?_
    refine j_aload_n B dX10_sweep_27 rfl 1 rfl ?_
    refine gf_RX10_84 B rfl (wf_65 hW) (wf_185 hW) dX10_sweep_28 ?_
    refine j_iconst B dX10_sweep_31 (v := 3) (by decide) ?_
    refine j_dup2 B dX10_sweep_32 rfl rfl ?_
    refine j_iald B ((wf_89 hW)) (vp_in_iff.mpr ⟨by decide, by decide⟩) dX10_sweep_33 ?_
    refine j_iload_n B dX10_sweep_34 rfl 0 rfl ?_
    refine j_iadd B dX10_sweep_35 ?_
    refine j_iast B ((wf_89 hW)) (vp_in_iff.mpr ⟨by decide, by decide⟩) dX10_sweep_36 ?_
    refine j_aload_n B dX10_sweep_37 rfl 1 rfl ?_
    refine gf_RX10_84 B rfl (wf_65 hW) (wf_185 hW) dX10_sweep_38 ?_
    refine j_iconst B dX10_sweep_41 (v := 4) (by decide) ?_
    refine j_dup2 B dX10_sweep_42 rfl rfl ?_
    refine j_iald B ((wf_89 hW)) (vp_in_iff.mpr ⟨by decide, by decide⟩) dX10_sweep_43 ?_
    refine j_iconst B dX10_sweep_44 (v := 1) (by decide) ?_
    refine j_iadd B dX10_sweep_45 ?_
    refine j_iast B ((wf_89 hW)) (vp_in_iff.mpr ⟨by decide, by decide⟩) dX10_sweep_46 ?_
    refine j_iload_n B dX10_sweep_47 rfl 0 rfl ?_
    obtain ⟨e1, e2⟩ := Prod.mk.inj (Option.some.inj h)
    subst e1
    subst e2
    exact j_iret B E rfl dX10_sweep_48 (Nat.le_refl _) (Nat.le_refl _) ⟨rfl, rfl, rfl, rfl⟩
  · replace h := h_neg (b2i_0 c) h
    refine j_iconst B dX10_sweep_8 (v := (-1)) (by decide) ?_
    obtain ⟨e1, e2⟩ := Prod.mk.inj (Option.some.inj h)
    subst e1
    subst e2
    exact j_iret B E rfl dX10_sweep_9 (Nat.le_refl _) (Nat.le_refl _) ⟨rfl, rfl, rfl, rfl⟩
def fX10_led (x1 : Int32) (vi0 : VI) : Option (Int32) := (fX10_in x1 0 4).bind fun r1 => if r1 = true then if inb x1 5 = true then some ((vi0 87 x1.toNatClampNeg)) else none else some ((-1))
theorem tX10_led {G : GT} {sv : SV} {vi0 : VI} {vl0 : VL} {ns : Nat} {x1 : Int32} {r : Int32} (hW : WF sv ns) (h : fX10_led x1 vi0 = some (r)) : Call G mX10_led 1 0 0 [.ref (G.1 + 63), .int x1] sv vi0 vl0 (QI r sv vi0 vl0) := by
  refine j_mk (by decide +kernel) (Nat.le_of_ble_eq_true rfl) (fun Γ B E => ?_)
  show J G Γ 0 0 0 [(0, .ref (G.1 + 63)), (1, .int x1)] [] sv vi0 vl0
  unfold fX10_led at h
  refine j_iload_n B dX10_led_0 rfl 1 rfl ?_
  refine j_iconst B dX10_led_1 (v := 0) (by decide) ?_
  refine j_iconst B dX10_led_2 (v := 4) (by decide) ?_
  obtain ⟨r1, hr1, h⟩ := h_bind h
  refine j_cSI (rest := []) B (tX10_in hr1) jt_RX10_124 wst_X10_in rfl (by decide) (Nat.le_refl _) (Nat.le_refl _) rfl (Nat.le_of_ble_eq_true rfl) dX10_led_3 ?_
  refine j_if_eq (tgt := 18) B dX10_led_6 (by decide) (fun c => ?_) (fun c => ?_)
  · replace h := h_neg (b2i_0 c) h
    refine j_iconst B dX10_led_18 (v := (-1)) (by decide) ?_
    have e1 := Option.some.inj h
    subst e1
    exact j_iret B E rfl dX10_led_19 (Nat.le_refl _) (Nat.le_refl _) ⟨rfl, rfl, rfl, rfl⟩
  · replace h := h_pos (b2i_1 c) h
    refine j_aload_n B dX10_led_9 rfl 0 rfl ?_
    refine gf_RX10_84 B rfl (wf_65 hW) (wf_185 hW) dX10_led_10 ?_
    refine j_iload_n B dX10_led_13 rfl 1 rfl ?_
    obtain ⟨b2, h⟩ := h_inb h
    refine j_iald B ((wf_89 hW)) b2 dX10_led_14 ?_
    refine j_goto (tgt := 19) B dX10_led_15 (by decide) ?_
    have e1 := Option.some.inj h
    subst e1
    exact j_iret B E rfl dX10_led_19 (Nat.le_refl _) (Nat.le_refl _) ⟨rfl, rfl, rfl, rfl⟩
def fX10_image_81  : Nat → Int32 → VI → Option (Int32 × VI)
  | 0, _, _ => none
  | F + 1, x1, vi => if 5 ≤ x1 then some ((vi 87 (0 : Int32).toNatClampNeg), vi) else if inb x1 5 = true then if inb x1 5 = true then fX10_image_81  F (x1 + 1) (j_up vi 91 x1.toNatClampNeg (vi 87 x1.toNatClampNeg)) else none else none
theorem tX10_image_81 {G : GT} {sv : SV} {vl0 : VL} {ns : Nat} {Γ : CT} {r : Int32} {vi' : VI} (B : Base G Γ mX10_image 0 0 0) (E : Ends G Γ 0 0 (QI r sv vi' vl0)) (hW : WF sv ns) : ∀ (F : Nat) (x1 : Int32) (vi : VI), fX10_image_81  F x1 vi = some (r, vi') → J G Γ 0 0 81 [(0, .ref (G.1 + 63)), (1, .int x1)] [] sv vi vl0 := by
  intro F
  induction F with
  | zero =>
    intro x1 vi  h
    cases (show (none : Option (Int32 × VI)) = some (r, vi') from h)
  | succ F ih =>
    intro x1 vi  h
    rw [fX10_image_81] at h
    refine j_iload_n B dX10_image_81 rfl 1 rfl ?_
    refine j_iconst B dX10_image_82 (v := 5) (by decide) ?_
    refine j_icmp_ge (tgt := 104) B dX10_image_83 (by decide) (fun c => ?_) (fun c => ?_)
    · replace h := h_pos c h
      refine j_aload_n B dX10_image_104 rfl 0 rfl ?_
      refine gf_RX10_84 B rfl (wf_65 hW) (wf_185 hW) dX10_image_105 ?_
      refine j_iconst B dX10_image_108 (v := 0) (by decide) ?_
      refine j_iald B ((wf_89 hW)) (vp_in_iff.mpr ⟨by decide, by decide⟩) dX10_image_109 ?_
      obtain ⟨e1, e2⟩ := Prod.mk.inj (Option.some.inj h)
      subst e1
      subst e2
      exact j_iret B E rfl dX10_image_110 (Nat.le_refl _) (Nat.le_refl _) ⟨rfl, rfl, rfl, rfl⟩
    · replace h := h_neg c h
      refine j_aload_n B dX10_image_86 rfl 0 rfl ?_
      refine gf_RX10_96 B rfl (wf_65 hW) (wf_189 hW) dX10_image_87 ?_
      refine j_iload_n B dX10_image_90 rfl 1 rfl ?_
      refine j_aload_n B dX10_image_91 rfl 0 rfl ?_
      refine gf_RX10_84 B rfl (wf_65 hW) (wf_185 hW) dX10_image_92 ?_
      refine j_iload_n B dX10_image_95 rfl 1 rfl ?_
      obtain ⟨b1, h⟩ := h_inb h
      refine j_iald B ((wf_89 hW)) b1 dX10_image_96 ?_
      obtain ⟨b2, h⟩ := h_inb h
      refine j_iast B ((wf_93 hW)) b2 dX10_image_97 ?_
      refine j_iinc (v := (x1 + 1)) (L' := [(1, .int (x1 + 1)), (0, .ref (G.1 + 63))]) B dX10_image_98 1 rfl rfl (by decide) rfl ?_
      refine j_goto (tgt := 81) B dX10_image_101 (by decide) ?_
      refine j_locals [1, 0] rfl ?_
      exact ih ((x1 + 1)) ((j_up vi 91 x1.toNatClampNeg (vi 87 x1.toNatClampNeg)))  h
def fX10_image_43  : Nat → Int32 → VI → Option (Int32 × VI)
  | 0, _, _ => none
  | F + 1, x1, vi => if 60 ≤ x1 then fX10_image_81  FU 0 vi else if inb x1 60 = true then if inb x1 60 = true then if inb x1 60 = true then if inb x1 60 = true then fX10_image_43  F (x1 + 1) (j_up (j_up vi 89 x1.toNatClampNeg (vi 68 x1.toNatClampNeg)) 90 x1.toNatClampNeg ((j_up vi 89 x1.toNatClampNeg (vi 68 x1.toNatClampNeg)) 69 x1.toNatClampNeg)) else none else none else none else none
theorem tX10_image_43 {G : GT} {sv : SV} {vl0 : VL} {ns : Nat} {Γ : CT} {r : Int32} {vi' : VI} (B : Base G Γ mX10_image 0 0 0) (E : Ends G Γ 0 0 (QI r sv vi' vl0)) (hW : WF sv ns) : ∀ (F : Nat) (x1 : Int32) (vi : VI), fX10_image_43  F x1 vi = some (r, vi') → J G Γ 0 0 43 [(0, .ref (G.1 + 63)), (1, .int x1)] [] sv vi vl0 := by
  intro F
  induction F with
  | zero =>
    intro x1 vi  h
    cases (show (none : Option (Int32 × VI)) = some (r, vi') from h)
  | succ F ih =>
    intro x1 vi  h
    rw [fX10_image_43] at h
    refine j_iload_n B dX10_image_43 rfl 1 rfl ?_
    refine j_bipush B dX10_image_44 (v := 60) (by decide) ?_
    refine j_icmp_ge (tgt := 79) B dX10_image_46 (by decide) (fun c => ?_) (fun c => ?_)
    · replace h := h_pos c h
      refine j_iconst B dX10_image_79 (v := 0) (by decide) ?_
      refine j_istore_n (L' := [(1, .int 0), (0, .ref (G.1 + 63))]) B dX10_image_80 rfl (by decide) rfl ?_
      refine j_locals [1, 0] rfl ?_
      exact tX10_image_81 B E hW FU (0) (vi)  h
    · replace h := h_neg c h
      refine j_aload_n B dX10_image_49 rfl 0 rfl ?_
      refine gf_RX10_90 B rfl (wf_65 hW) (wf_187 hW) dX10_image_50 ?_
      refine j_iload_n B dX10_image_53 rfl 1 rfl ?_
      refine j_aload_n B dX10_image_54 rfl 0 rfl ?_
      refine gf_RX10_24 B rfl (wf_65 hW) (wf_166 hW) dX10_image_55 ?_
      refine j_iload_n B dX10_image_58 rfl 1 rfl ?_
      obtain ⟨b3, h⟩ := h_inb h
      refine j_iald B ((wf_70 hW)) b3 dX10_image_59 ?_
      obtain ⟨b4, h⟩ := h_inb h
      refine j_iast B ((wf_91 hW)) b4 dX10_image_60 ?_
      refine j_aload_n B dX10_image_61 rfl 0 rfl ?_
      refine gf_RX10_93 B rfl (wf_65 hW) (wf_188 hW) dX10_image_62 ?_
      refine j_iload_n B dX10_image_65 rfl 1 rfl ?_
      refine j_aload_n B dX10_image_66 rfl 0 rfl ?_
      refine gf_RX10_27 B rfl (wf_65 hW) (wf_167 hW) dX10_image_67 ?_
      refine j_iload_n B dX10_image_70 rfl 1 rfl ?_
      obtain ⟨b5, h⟩ := h_inb h
      refine j_iald B ((wf_71 hW)) b5 dX10_image_71 ?_
      obtain ⟨b6, h⟩ := h_inb h
      refine j_iast B ((wf_92 hW)) b6 dX10_image_72 ?_
      refine j_iinc (v := (x1 + 1)) (L' := [(1, .int (x1 + 1)), (0, .ref (G.1 + 63))]) B dX10_image_73 1 rfl rfl (by decide) rfl ?_
      refine j_goto (tgt := 43) B dX10_image_76 (by decide) ?_
      refine j_locals [1, 0] rfl ?_
      exact ih ((x1 + 1)) ((j_up (j_up vi 89 x1.toNatClampNeg (vi 68 x1.toNatClampNeg)) 90 x1.toNatClampNeg ((j_up vi 89 x1.toNatClampNeg (vi 68 x1.toNatClampNeg)) 69 x1.toNatClampNeg)))  h
def fX10_image_15  : Nat → Int32 → VI → Option (Int32 × VI)
  | 0, _, _ => none
  | F + 1, x1, vi => if (vi 63 1) ≤ x1 then fX10_image_43  FU 0 vi else if inb x1 5 = true then if inb x1 5 = true then fX10_image_15  F (x1 + 1) (j_up vi 88 x1.toNatClampNeg (vi 67 x1.toNatClampNeg)) else none else none
theorem tX10_image_15 {G : GT} {sv : SV} {vl0 : VL} {ns : Nat} {Γ : CT} {r : Int32} {vi' : VI} (B : Base G Γ mX10_image 0 0 0) (E : Ends G Γ 0 0 (QI r sv vi' vl0)) (hW : WF sv ns) : ∀ (F : Nat) (x1 : Int32) (vi : VI), fX10_image_15  F x1 vi = some (r, vi') → J G Γ 0 0 15 [(0, .ref (G.1 + 63)), (1, .int x1)] [] sv vi vl0 := by
  intro F
  induction F with
  | zero =>
    intro x1 vi  h
    cases (show (none : Option (Int32 × VI)) = some (r, vi') from h)
  | succ F ih =>
    intro x1 vi  h
    rw [fX10_image_15] at h
    refine j_iload_n B dX10_image_15 rfl 1 rfl ?_
    refine j_aload_n B dX10_image_16 rfl 0 rfl ?_
    refine gf_RX10_121 B rfl (wf_65 hW) dX10_image_17 ?_
    refine j_icmp_ge (tgt := 41) B dX10_image_20 (by decide) (fun c => ?_) (fun c => ?_)
    · replace h := h_pos c h
      refine j_iconst B dX10_image_41 (v := 0) (by decide) ?_
      refine j_istore_n (L' := [(1, .int 0), (0, .ref (G.1 + 63))]) B dX10_image_42 rfl (by decide) rfl ?_
      refine j_locals [1, 0] rfl ?_
      exact tX10_image_43 B E hW FU (0) (vi)  h
    · replace h := h_neg c h
      refine j_aload_n B dX10_image_23 rfl 0 rfl ?_
      refine gf_RX10_87 B rfl (wf_65 hW) (wf_186 hW) dX10_image_24 ?_
      refine j_iload_n B dX10_image_27 rfl 1 rfl ?_
      refine j_aload_n B dX10_image_28 rfl 0 rfl ?_
      refine gf_RX10_21 B rfl (wf_65 hW) (wf_165 hW) dX10_image_29 ?_
      refine j_iload_n B dX10_image_32 rfl 1 rfl ?_
      obtain ⟨b7, h⟩ := h_inb h
      refine j_iald B ((wf_69 hW)) b7 dX10_image_33 ?_
      obtain ⟨b8, h⟩ := h_inb h
      refine j_iast B ((wf_90 hW)) b8 dX10_image_34 ?_
      refine j_iinc (v := (x1 + 1)) (L' := [(1, .int (x1 + 1)), (0, .ref (G.1 + 63))]) B dX10_image_35 1 rfl rfl (by decide) rfl ?_
      refine j_goto (tgt := 15) B dX10_image_38 (by decide) ?_
      refine j_locals [1, 0] rfl ?_
      exact ih ((x1 + 1)) ((j_up vi 88 x1.toNatClampNeg (vi 67 x1.toNatClampNeg)))  h
def fX10_image  (vi0 : VI) : Option (Int32 × VI) := fX10_image_15  FU 0 (j_up (j_up vi0 63 39 1) 63 40 ((j_up vi0 63 39 1) 63 1))
theorem tX10_image {G : GT} {sv : SV} {vi0 : VI} {vl0 : VL} {ns : Nat} {r : Int32} {vi' : VI} (hW : WF sv ns) (h : fX10_image vi0 = some (r, vi')) : Call G mX10_image 0 0 0 [.ref (G.1 + 63)] sv vi0 vl0 (QI r sv vi' vl0) := by
  refine j_mk (by decide +kernel) (Nat.le_of_ble_eq_true rfl) (fun Γ B E => ?_)
  show J G Γ 0 0 0 [(0, .ref (G.1 + 63))] [] sv vi0 vl0
  unfold fX10_image at h
  refine j_aload_n B dX10_image_0 rfl 0 rfl ?_
  refine j_iconst B dX10_image_1 (v := 1) (by decide) ?_
  refine pf_RX10_379 B rfl (wf_65 hW) (Or.inr rfl) dX10_image_2 ?_
  refine j_aload_n B dX10_image_5 rfl 0 rfl ?_
  refine j_aload_n B dX10_image_6 rfl 0 rfl ?_
  refine gf_RX10_121 B rfl (wf_65 hW) dX10_image_7 ?_
  refine pf_RX10_382 B rfl (wf_65 hW) dX10_image_10 ?_
  refine j_iconst B dX10_image_13 (v := 0) (by decide) ?_
  refine j_istore_n (L' := [(1, .int 0), (0, .ref (G.1 + 63))]) B dX10_image_14 rfl (by decide) rfl ?_
  refine j_locals [1, 0] rfl ?_
  exact tX10_image_15 B E hW FU (0) ((j_up (j_up vi0 63 39 1) 63 40 ((j_up vi0 63 39 1) 63 1)))  h
def fX10_back_90  : Nat → Int32 → VI → Option (Int32 × VI)
  | 0, _, _ => none
  | F + 1, x1, vi => if 5 ≤ x1 then some ((vi 87 (0 : Int32).toNatClampNeg), vi) else if inb x1 5 = true then if inb x1 5 = true then fX10_back_90  F (x1 + 1) (j_up vi 87 x1.toNatClampNeg (vi 91 x1.toNatClampNeg)) else none else none
theorem tX10_back_90 {G : GT} {sv : SV} {vl0 : VL} {ns : Nat} {Γ : CT} {r : Int32} {vi' : VI} (B : Base G Γ mX10_back 0 0 0) (E : Ends G Γ 0 0 (QI r sv vi' vl0)) (hW : WF sv ns) : ∀ (F : Nat) (x1 : Int32) (vi : VI), fX10_back_90  F x1 vi = some (r, vi') → J G Γ 0 0 90 [(0, .ref (G.1 + 63)), (1, .int x1)] [] sv vi vl0 := by
  intro F
  induction F with
  | zero =>
    intro x1 vi  h
    cases (show (none : Option (Int32 × VI)) = some (r, vi') from h)
  | succ F ih =>
    intro x1 vi  h
    rw [fX10_back_90] at h
    refine j_iload_n B dX10_back_90 rfl 1 rfl ?_
    refine j_iconst B dX10_back_91 (v := 5) (by decide) ?_
    refine j_icmp_ge (tgt := 113) B dX10_back_92 (by decide) (fun c => ?_) (fun c => ?_)
    · replace h := h_pos c h
      refine j_aload_n B dX10_back_113 rfl 0 rfl ?_
      refine gf_RX10_84 B rfl (wf_65 hW) (wf_185 hW) dX10_back_114 ?_
      refine j_iconst B dX10_back_117 (v := 0) (by decide) ?_
      refine j_iald B ((wf_89 hW)) (vp_in_iff.mpr ⟨by decide, by decide⟩) dX10_back_118 ?_
      obtain ⟨e1, e2⟩ := Prod.mk.inj (Option.some.inj h)
      subst e1
      subst e2
      exact j_iret B E rfl dX10_back_119 (Nat.le_refl _) (Nat.le_refl _) ⟨rfl, rfl, rfl, rfl⟩
    · replace h := h_neg c h
      refine j_aload_n B dX10_back_95 rfl 0 rfl ?_
      refine gf_RX10_84 B rfl (wf_65 hW) (wf_185 hW) dX10_back_96 ?_
      refine j_iload_n B dX10_back_99 rfl 1 rfl ?_
      refine j_aload_n B dX10_back_100 rfl 0 rfl ?_
      refine gf_RX10_96 B rfl (wf_65 hW) (wf_189 hW) dX10_back_101 ?_
      refine j_iload_n B dX10_back_104 rfl 1 rfl ?_
      obtain ⟨b1, h⟩ := h_inb h
      refine j_iald B ((wf_93 hW)) b1 dX10_back_105 ?_
      obtain ⟨b2, h⟩ := h_inb h
      refine j_iast B ((wf_89 hW)) b2 dX10_back_106 ?_
      refine j_iinc (v := (x1 + 1)) (L' := [(1, .int (x1 + 1)), (0, .ref (G.1 + 63))]) B dX10_back_107 1 rfl rfl (by decide) rfl ?_
      refine j_goto (tgt := 90) B dX10_back_110 (by decide) ?_
      refine j_locals [1, 0] rfl ?_
      exact ih ((x1 + 1)) ((j_up vi 87 x1.toNatClampNeg (vi 91 x1.toNatClampNeg)))  h
def fX10_back_52  : Nat → Int32 → VI → Option (Int32 × VI)
  | 0, _, _ => none
  | F + 1, x1, vi => if 60 ≤ x1 then fX10_back_90  FU 0 vi else if inb x1 60 = true then if inb x1 60 = true then if inb x1 60 = true then if inb x1 60 = true then fX10_back_52  F (x1 + 1) (j_up (j_up vi 68 x1.toNatClampNeg (vi 89 x1.toNatClampNeg)) 69 x1.toNatClampNeg ((j_up vi 68 x1.toNatClampNeg (vi 89 x1.toNatClampNeg)) 90 x1.toNatClampNeg)) else none else none else none else none
theorem tX10_back_52 {G : GT} {sv : SV} {vl0 : VL} {ns : Nat} {Γ : CT} {r : Int32} {vi' : VI} (B : Base G Γ mX10_back 0 0 0) (E : Ends G Γ 0 0 (QI r sv vi' vl0)) (hW : WF sv ns) : ∀ (F : Nat) (x1 : Int32) (vi : VI), fX10_back_52  F x1 vi = some (r, vi') → J G Γ 0 0 52 [(0, .ref (G.1 + 63)), (1, .int x1)] [] sv vi vl0 := by
  intro F
  induction F with
  | zero =>
    intro x1 vi  h
    cases (show (none : Option (Int32 × VI)) = some (r, vi') from h)
  | succ F ih =>
    intro x1 vi  h
    rw [fX10_back_52] at h
    refine j_iload_n B dX10_back_52 rfl 1 rfl ?_
    refine j_bipush B dX10_back_53 (v := 60) (by decide) ?_
    refine j_icmp_ge (tgt := 88) B dX10_back_55 (by decide) (fun c => ?_) (fun c => ?_)
    · replace h := h_pos c h
      refine j_iconst B dX10_back_88 (v := 0) (by decide) ?_
      refine j_istore_n (L' := [(1, .int 0), (0, .ref (G.1 + 63))]) B dX10_back_89 rfl (by decide) rfl ?_
      refine j_locals [1, 0] rfl ?_
      exact tX10_back_90 B E hW FU (0) (vi)  h
    · replace h := h_neg c h
      refine j_aload_n B dX10_back_58 rfl 0 rfl ?_
      refine gf_RX10_24 B rfl (wf_65 hW) (wf_166 hW) dX10_back_59 ?_
      refine j_iload_n B dX10_back_62 rfl 1 rfl ?_
      refine j_aload_n B dX10_back_63 rfl 0 rfl ?_
      refine gf_RX10_90 B rfl (wf_65 hW) (wf_187 hW) dX10_back_64 ?_
      refine j_iload_n B dX10_back_67 rfl 1 rfl ?_
      obtain ⟨b3, h⟩ := h_inb h
      refine j_iald B ((wf_91 hW)) b3 dX10_back_68 ?_
      obtain ⟨b4, h⟩ := h_inb h
      refine j_iast B ((wf_70 hW)) b4 dX10_back_69 ?_
      refine j_aload_n B dX10_back_70 rfl 0 rfl ?_
      refine gf_RX10_27 B rfl (wf_65 hW) (wf_167 hW) dX10_back_71 ?_
      refine j_iload_n B dX10_back_74 rfl 1 rfl ?_
      refine j_aload_n B dX10_back_75 rfl 0 rfl ?_
      refine gf_RX10_93 B rfl (wf_65 hW) (wf_188 hW) dX10_back_76 ?_
      refine j_iload_n B dX10_back_79 rfl 1 rfl ?_
      obtain ⟨b5, h⟩ := h_inb h
      refine j_iald B ((wf_92 hW)) b5 dX10_back_80 ?_
      obtain ⟨b6, h⟩ := h_inb h
      refine j_iast B ((wf_71 hW)) b6 dX10_back_81 ?_
      refine j_iinc (v := (x1 + 1)) (L' := [(1, .int (x1 + 1)), (0, .ref (G.1 + 63))]) B dX10_back_82 1 rfl rfl (by decide) rfl ?_
      refine j_goto (tgt := 52) B dX10_back_85 (by decide) ?_
      refine j_locals [1, 0] rfl ?_
      exact ih ((x1 + 1)) ((j_up (j_up vi 68 x1.toNatClampNeg (vi 89 x1.toNatClampNeg)) 69 x1.toNatClampNeg ((j_up vi 68 x1.toNatClampNeg (vi 89 x1.toNatClampNeg)) 90 x1.toNatClampNeg)))  h
def fX10_back_43  (k12 : Int32 → VI → Option (Int32 × VI)) (x1 : Int32) (s1 : Int32) (s2 : Int32) (vi : VI) : Option (Int32 × VI) := if inb s1 5 = true then k12 (x1 + 1) (j_up vi 67 s1.toNatClampNeg s2) else none
theorem tX10_back_43 {G : GT} {sv : SV} {vl0 : VL} {ns : Nat} {Γ : CT} {r : Int32} {vi' : VI} {k12 : Int32 → VI → Option (Int32 × VI)} (B : Base G Γ mX10_back 0 0 0) (E : Ends G Γ 0 0 (QI r sv vi' vl0)) (hW : WF sv ns) (hk12 : ∀ (x1 : Int32) (vi : VI), k12 x1 vi = some (r, vi') → J G Γ 0 0 12 [(0, .ref (G.1 + 63)), (1, .int x1)] [] sv vi vl0) : ∀ (x1 : Int32) (s1 : Int32) (s2 : Int32) (vi : VI), fX10_back_43 k12 x1 s1 s2 vi = some (r, vi') → J G Γ 0 0 43 [(0, .ref (G.1 + 63)), (1, .int x1)] [.int s2, .int s1, .ref (G.1 + 67)] sv vi vl0 := by
  intro x1 s1 s2 vi  h
  unfold fX10_back_43 at h
  obtain ⟨b7, h⟩ := h_inb h
  refine j_iast B ((wf_69 hW)) b7 dX10_back_43 ?_
  refine j_iinc (v := (x1 + 1)) (L' := [(1, .int (x1 + 1)), (0, .ref (G.1 + 63))]) B dX10_back_44 1 rfl rfl (by decide) rfl ?_
  refine j_goto (tgt := 12) B dX10_back_47 (by decide) ?_
  refine j_locals [1, 0] rfl ?_
  exact hk12 ((x1 + 1)) ((j_up vi 67 s1.toNatClampNeg s2))  h
def fX10_back_12  : Nat → Int32 → VI → Option (Int32 × VI)
  | 0, _, _ => none
  | F + 1, x1, vi => if (vi 63 1) ≤ x1 then fX10_back_52  FU 0 vi else if (vi 63 40) ≤ x1 then fX10_back_43 (fX10_back_12  F) x1 x1 0 vi else if inb x1 5 = true then fX10_back_43 (fX10_back_12  F) x1 x1 (vi 88 x1.toNatClampNeg) vi else none
theorem tX10_back_12 {G : GT} {sv : SV} {vl0 : VL} {ns : Nat} {Γ : CT} {r : Int32} {vi' : VI} (B : Base G Γ mX10_back 0 0 0) (E : Ends G Γ 0 0 (QI r sv vi' vl0)) (hW : WF sv ns) : ∀ (F : Nat) (x1 : Int32) (vi : VI), fX10_back_12  F x1 vi = some (r, vi') → J G Γ 0 0 12 [(0, .ref (G.1 + 63)), (1, .int x1)] [] sv vi vl0 := by
  intro F
  induction F with
  | zero =>
    intro x1 vi  h
    cases (show (none : Option (Int32 × VI)) = some (r, vi') from h)
  | succ F ih =>
    intro x1 vi  h
    rw [fX10_back_12] at h
    refine j_iload_n B dX10_back_12 rfl 1 rfl ?_
    refine j_aload_n B dX10_back_13 rfl 0 rfl ?_
    refine gf_RX10_121 B rfl (wf_65 hW) dX10_back_14 ?_
    refine j_icmp_ge (tgt := 50) B dX10_back_17 (by decide) (fun c => ?_) (fun c => ?_)
    · replace h := h_pos c h
      refine j_iconst B dX10_back_50 (v := 0) (by decide) ?_
      refine j_istore_n (L' := [(1, .int 0), (0, .ref (G.1 + 63))]) B dX10_back_51 rfl (by decide) rfl ?_
      refine j_locals [1, 0] rfl ?_
      exact tX10_back_52 B E hW FU (0) (vi)  h
    · replace h := h_neg c h
      refine j_aload_n B dX10_back_20 rfl 0 rfl ?_
      refine gf_RX10_21 B rfl (wf_65 hW) (wf_165 hW) dX10_back_21 ?_
      refine j_iload_n B dX10_back_24 rfl 1 rfl ?_
      refine j_iload_n B dX10_back_25 rfl 1 rfl ?_
      refine j_aload_n B dX10_back_26 rfl 0 rfl ?_
      refine gf_RX10_382 B rfl (wf_65 hW) dX10_back_27 ?_
      refine j_icmp_ge (tgt := 42) B dX10_back_30 (by decide) (fun c => ?_) (fun c => ?_)
      · replace h := h_pos c h
        refine j_iconst B dX10_back_42 (v := 0) (by decide) ?_
        refine j_locals [0, 1] rfl ?_
        exact tX10_back_43 B E hW ih (x1) (x1) (0) (vi)  h
      · replace h := h_neg c h
        refine j_aload_n B dX10_back_33 rfl 0 rfl ?_
        refine gf_RX10_87 B rfl (wf_65 hW) (wf_186 hW) dX10_back_34 ?_
        refine j_iload_n B dX10_back_37 rfl 1 rfl ?_
        obtain ⟨b8, h⟩ := h_inb h
        refine j_iald B ((wf_90 hW)) b8 dX10_back_38 ?_
        refine j_goto (tgt := 43) B dX10_back_39 (by decide) ?_
        refine j_locals [0, 1] rfl ?_
        exact tX10_back_43 B E hW ih (x1) (x1) ((vi 88 x1.toNatClampNeg)) (vi)  h
def fX10_back  (vi0 : VI) : Option (Int32 × VI) := if (vi0 63 39) = 0 then some ((-5), vi0) else fX10_back_12  FU 0 vi0
theorem tX10_back {G : GT} {sv : SV} {vi0 : VI} {vl0 : VL} {ns : Nat} {r : Int32} {vi' : VI} (hW : WF sv ns) (h : fX10_back vi0 = some (r, vi')) : Call G mX10_back 0 0 0 [.ref (G.1 + 63)] sv vi0 vl0 (QI r sv vi' vl0) := by
  refine j_mk (by decide +kernel) (Nat.le_of_ble_eq_true rfl) (fun Γ B E => ?_)
  show J G Γ 0 0 0 [(0, .ref (G.1 + 63))] [] sv vi0 vl0
  unfold fX10_back at h
  refine j_aload_n B dX10_back_0 rfl 0 rfl ?_
  refine gf_RX10_379 B rfl (wf_65 hW) dX10_back_1 ?_
  refine j_if_ne (tgt := 10) B dX10_back_4 (by decide) (fun c => ?_) (fun c => ?_)
  · replace h := h_neg c h
    refine j_iconst B dX10_back_10 (v := 0) (by decide) ?_
    refine j_istore_n (L' := [(1, .int 0), (0, .ref (G.1 + 63))]) B dX10_back_11 rfl (by decide) rfl ?_
    refine j_locals [1, 0] rfl ?_
    exact tX10_back_12 B E hW FU (0) (vi0)  h
  · replace h := h_pos c h
    refine j_bipush B dX10_back_7 (v := (-5)) (by decide) ?_
    obtain ⟨e1, e2⟩ := Prod.mk.inj (Option.some.inj h)
    subst e1
    subst e2
    exact j_iret B E rfl dX10_back_9 (Nat.le_refl _) (Nat.le_refl _) ⟨rfl, rfl, rfl, rfl⟩
def fX10_isBody (x1 : Int32) (vi0 : VI) : Option (Bool) := (fX10_in x1 0 ((vi0 63 45) - 1)).bind fun r1 => some (r1)
theorem tX10_isBody {G : GT} {sv : SV} {vi0 : VI} {vl0 : VL} {ns : Nat} {x1 : Int32} {r : Bool} (hW : WF sv ns) (h : fX10_isBody x1 vi0 = some (r)) : Call G mX10_isBody 1 0 0 [.ref (G.1 + 63), .int x1] sv vi0 vl0 (QI (b2i r) sv vi0 vl0) := by
  refine j_mk (by decide +kernel) (Nat.le_of_ble_eq_true rfl) (fun Γ B E => ?_)
  show J G Γ 0 0 0 [(0, .ref (G.1 + 63)), (1, .int x1)] [] sv vi0 vl0
  unfold fX10_isBody at h
  refine j_iload_n B dX10_isBody_0 rfl 1 rfl ?_
  refine j_iconst B dX10_isBody_1 (v := 0) (by decide) ?_
  refine j_aload_n B dX10_isBody_2 rfl 0 rfl ?_
  refine gf_RX10_385 B rfl (wf_65 hW) dX10_isBody_3 ?_
  refine j_iconst B dX10_isBody_6 (v := 1) (by decide) ?_
  refine j_isub B dX10_isBody_7 ?_
  obtain ⟨r1, hr1, h⟩ := h_bind h
  refine j_cSI (rest := []) B (tX10_in hr1) jt_RX10_124 wst_X10_in rfl (by decide) (Nat.le_refl _) (Nat.le_refl _) rfl (Nat.le_of_ble_eq_true rfl) dX10_isBody_8 ?_
  have z9 := b2i_or r1
  have e1 := Option.some.inj h
  subst e1
  exact j_zret B E rfl z9 dX10_isBody_11 (Nat.le_refl _) (Nat.le_refl _) ⟨rfl, rfl, rfl, rfl⟩
def fX10_ran_19  (vi : VI) : Option (VI) := some ((j_up vi 63 47 ((vi 63 47) + 1)))
theorem tX10_ran_19 {G : GT} {sv : SV} {vl0 : VL} {ns : Nat} {Γ : CT} {vi' : VI} (B : Base G Γ mX10_ran 0 0 0) (E : Ends G Γ 0 0 (QV sv vi' vl0)) (hW : WF sv ns) : ∀ (vi : VI), fX10_ran_19  vi = some (vi') → J G Γ 0 0 19 [(0, .ref (G.1 + 63))] [] sv vi vl0 := by
  intro vi  h
  unfold fX10_ran_19 at h
  refine j_aload_n B dX10_ran_19 rfl 0 rfl ?_
  refine j_dup B dX10_ran_20 rfl ?_
  refine gf_RX10_388 B rfl (wf_65 hW) dX10_ran_21 ?_
  refine j_iconst B dX10_ran_24 (v := 1) (by decide) ?_
  refine j_iadd B dX10_ran_25 ?_
  refine pf_RX10_388 B rfl (wf_65 hW) dX10_ran_26 ?_
  have e1 := Option.some.inj h
  subst e1
  exact j_vret B E rfl dX10_ran_29 (Nat.le_refl _) (Nat.le_refl _) ⟨rfl, rfl, rfl, rfl⟩
def fX10_ran (x1 : Int32) (vi0 : VI) : Option (VI) := if 24 ≤ (vi0 63 47) then fX10_ran_19  vi0 else if inb (vi0 63 47) 24 = true then fX10_ran_19  (j_up vi0 93 (vi0 63 47).toNatClampNeg x1) else none
theorem tX10_ran {G : GT} {sv : SV} {vi0 : VI} {vl0 : VL} {ns : Nat} {x1 : Int32} {vi' : VI} (hW : WF sv ns) (h : fX10_ran x1 vi0 = some (vi')) : Call G mX10_ran 0 0 0 [.ref (G.1 + 63), .int x1] sv vi0 vl0 (QV sv vi' vl0) := by
  refine j_mk (by decide +kernel) (Nat.le_of_ble_eq_true rfl) (fun Γ B E => ?_)
  show J G Γ 0 0 0 [(0, .ref (G.1 + 63)), (1, .int x1)] [] sv vi0 vl0
  unfold fX10_ran at h
  refine j_aload_n B dX10_ran_0 rfl 0 rfl ?_
  refine gf_RX10_388 B rfl (wf_65 hW) dX10_ran_1 ?_
  refine j_bipush B dX10_ran_4 (v := 24) (by decide) ?_
  refine j_icmp_ge (tgt := 19) B dX10_ran_6 (by decide) (fun c => ?_) (fun c => ?_)
  · replace h := h_pos c h
    refine j_locals [0] rfl ?_
    exact tX10_ran_19 B E hW (vi0)  h
  · replace h := h_neg c h
    refine j_aload_n B dX10_ran_9 rfl 0 rfl ?_
    refine gf_RX10_102 B rfl (wf_65 hW) (wf_191 hW) dX10_ran_10 ?_
    refine j_aload_n B dX10_ran_13 rfl 0 rfl ?_
    refine gf_RX10_388 B rfl (wf_65 hW) dX10_ran_14 ?_
    refine j_iload_n B dX10_ran_17 rfl 1 rfl ?_
    obtain ⟨b1, h⟩ := h_inb h
    refine j_iast B ((wf_95 hW)) b1 dX10_ran_18 ?_
    refine j_locals [0] rfl ?_
    exact tX10_ran_19 B E hW ((j_up vi0 93 (vi0 63 47).toNatClampNeg x1))  h
def fX10_trace (x1 : Int32) (vi0 : VI) : Option (Int32) := if x1 < 0 then some ((-1)) else if (vi0 63 47) ≤ x1 then some ((-1)) else if 24 ≤ x1 then some ((-1)) else if inb x1 24 = true then some ((vi0 93 x1.toNatClampNeg)) else none
theorem tX10_trace {G : GT} {sv : SV} {vi0 : VI} {vl0 : VL} {ns : Nat} {x1 : Int32} {r : Int32} (hW : WF sv ns) (h : fX10_trace x1 vi0 = some (r)) : Call G mX10_trace 0 0 0 [.ref (G.1 + 63), .int x1] sv vi0 vl0 (QI r sv vi0 vl0) := by
  refine j_mk (by decide +kernel) (Nat.le_of_ble_eq_true rfl) (fun Γ B E => ?_)
  show J G Γ 0 0 0 [(0, .ref (G.1 + 63)), (1, .int x1)] [] sv vi0 vl0
  unfold fX10_trace at h
  refine j_iload_n B dX10_trace_0 rfl 1 rfl ?_
  refine j_if_lt (tgt := 27) B dX10_trace_1 (by decide) (fun c => ?_) (fun c => ?_)
  · replace h := h_pos c h
    refine j_iconst B dX10_trace_27 (v := (-1)) (by decide) ?_
    have e1 := Option.some.inj h
    subst e1
    exact j_iret B E rfl dX10_trace_28 (Nat.le_refl _) (Nat.le_refl _) ⟨rfl, rfl, rfl, rfl⟩
  · replace h := h_neg c h
    refine j_iload_n B dX10_trace_4 rfl 1 rfl ?_
    refine j_aload_n B dX10_trace_5 rfl 0 rfl ?_
    refine gf_RX10_388 B rfl (wf_65 hW) dX10_trace_6 ?_
    refine j_icmp_ge (tgt := 27) B dX10_trace_9 (by decide) (fun c => ?_) (fun c => ?_)
    · replace h := h_pos c h
      refine j_iconst B dX10_trace_27 (v := (-1)) (by decide) ?_
      have e1 := Option.some.inj h
      subst e1
      exact j_iret B E rfl dX10_trace_28 (Nat.le_refl _) (Nat.le_refl _) ⟨rfl, rfl, rfl, rfl⟩
    · replace h := h_neg c h
      refine j_iload_n B dX10_trace_12 rfl 1 rfl ?_
      refine j_bipush B dX10_trace_13 (v := 24) (by decide) ?_
      refine j_icmp_ge (tgt := 27) B dX10_trace_15 (by decide) (fun c => ?_) (fun c => ?_)
      · replace h := h_pos c h
        refine j_iconst B dX10_trace_27 (v := (-1)) (by decide) ?_
        have e1 := Option.some.inj h
        subst e1
        exact j_iret B E rfl dX10_trace_28 (Nat.le_refl _) (Nat.le_refl _) ⟨rfl, rfl, rfl, rfl⟩
      · replace h := h_neg c h
        refine j_aload_n B dX10_trace_18 rfl 0 rfl ?_
        refine gf_RX10_102 B rfl (wf_65 hW) (wf_191 hW) dX10_trace_19 ?_
        refine j_iload_n B dX10_trace_22 rfl 1 rfl ?_
        obtain ⟨b1, h⟩ := h_inb h
        refine j_iald B ((wf_95 hW)) b1 dX10_trace_23 ?_
        refine j_goto (tgt := 28) B dX10_trace_24 (by decide) ?_
        have e1 := Option.some.inj h
        subst e1
        exact j_iret B E rfl dX10_trace_28 (Nat.le_refl _) (Nat.le_refl _) ⟨rfl, rfl, rfl, rfl⟩
def fX10_body (x1 : Int32) (vi0 : VI) : Option (Int32 × VI) := (fX10_in x1 0 7).bind fun r1 => if r1 = true then if (vi0 63 45) = 50 then some ((-3), vi0) else if inb (vi0 63 45) 50 = true then some ((((j_up (j_up vi0 92 (vi0 63 45).toNatClampNeg x1) 63 45 (((j_up vi0 92 (vi0 63 45).toNatClampNeg x1) 63 45) + 1)) 63 45) - 1), (j_up (j_up vi0 92 (vi0 63 45).toNatClampNeg x1) 63 45 (((j_up vi0 92 (vi0 63 45).toNatClampNeg x1) 63 45) + 1))) else none else some ((-1), vi0)
theorem tX10_body {G : GT} {sv : SV} {vi0 : VI} {vl0 : VL} {ns : Nat} {x1 : Int32} {r : Int32} {vi' : VI} (hW : WF sv ns) (h : fX10_body x1 vi0 = some (r, vi')) : Call G mX10_body 1 0 0 [.ref (G.1 + 63), .int x1] sv vi0 vl0 (QI r sv vi' vl0) := by
  refine j_mk (by decide +kernel) (Nat.le_of_ble_eq_true rfl) (fun Γ B E => ?_)
  show J G Γ 0 0 0 [(0, .ref (G.1 + 63)), (1, .int x1)] [] sv vi0 vl0
  unfold fX10_body at h
  refine j_iload_n B dX10_body_0 rfl 1 rfl ?_
  refine j_iconst B dX10_body_1 (v := 0) (by decide) ?_
  refine j_bipush B dX10_body_2 (v := 7) (by decide) ?_
  obtain ⟨r1, hr1, h⟩ := h_bind h
  refine j_cSI (rest := []) B (tX10_in hr1) jt_RX10_124 wst_X10_in rfl (by decide) (Nat.le_refl _) (Nat.le_refl _) rfl (Nat.le_of_ble_eq_true rfl) dX10_body_4 ?_
  refine j_if_ne (tgt := 12) B dX10_body_7 (by decide) (fun c => ?_) (fun c => ?_)
  · replace h := h_pos (b2i_1 c) h
    refine j_aload_n B dX10_body_12 rfl 0 rfl ?_
    refine gf_RX10_385 B rfl (wf_65 hW) dX10_body_13 ?_
    refine j_bipush B dX10_body_16 (v := 50) (by decide) ?_
    refine j_icmp_ne (tgt := 24) B dX10_body_18 (by decide) (fun c => ?_) (fun c => ?_)
    · replace h := h_neg c h
      refine j_aload_n B dX10_body_24 rfl 0 rfl ?_
      refine gf_RX10_99 B rfl (wf_65 hW) (wf_190 hW) dX10_body_25 ?_
      refine j_aload_n B dX10_body_28 rfl 0 rfl ?_
      refine gf_RX10_385 B rfl (wf_65 hW) dX10_body_29 ?_
      refine j_iload_n B dX10_body_32 rfl 1 rfl ?_
      obtain ⟨b2, h⟩ := h_inb h
      refine j_iast B ((wf_94 hW)) b2 dX10_body_33 ?_
      refine j_aload_n B dX10_body_34 rfl 0 rfl ?_
      refine j_dup B dX10_body_35 rfl ?_
      refine gf_RX10_385 B rfl (wf_65 hW) dX10_body_36 ?_
      refine j_iconst B dX10_body_39 (v := 1) (by decide) ?_
      refine j_iadd B dX10_body_40 ?_
      refine pf_RX10_385 B rfl (wf_65 hW) dX10_body_41 ?_
      refine j_aload_n B dX10_body_44 rfl 0 rfl ?_
      refine gf_RX10_385 B rfl (wf_65 hW) dX10_body_45 ?_
      refine j_iconst B dX10_body_48 (v := 1) (by decide) ?_
      refine j_isub B dX10_body_49 ?_
      obtain ⟨e1, e2⟩ := Prod.mk.inj (Option.some.inj h)
      subst e1
      subst e2
      exact j_iret B E rfl dX10_body_50 (Nat.le_refl _) (Nat.le_refl _) ⟨rfl, rfl, rfl, rfl⟩
    · replace h := h_pos c h
      refine j_bipush B dX10_body_21 (v := (-3)) (by decide) ?_
      obtain ⟨e1, e2⟩ := Prod.mk.inj (Option.some.inj h)
      subst e1
      subst e2
      exact j_iret B E rfl dX10_body_23 (Nat.le_refl _) (Nat.le_refl _) ⟨rfl, rfl, rfl, rfl⟩
  · replace h := h_neg (b2i_0 c) h
    refine j_iconst B dX10_body_10 (v := (-1)) (by decide) ?_
    obtain ⟨e1, e2⟩ := Prod.mk.inj (Option.some.inj h)
    subst e1
    subst e2
    exact j_iret B E rfl dX10_body_11 (Nat.le_refl _) (Nat.le_refl _) ⟨rfl, rfl, rfl, rfl⟩
def fX10_isUnder_56  : Option (Bool) := some (true)
theorem tX10_isUnder_56 {G : GT} {sv : SV} {vi0 : VI} {vl0 : VL} {Γ : CT} {r : Bool} (B : Base G Γ mX10_isUnder 0 0 0) (E : Ends G Γ 0 0 (QI (b2i r) sv vi0 vl0)) : fX10_isUnder_56   = some (r) → J G Γ 0 0 56 [] [] sv vi0 vl0 := by
  intro   h
  unfold fX10_isUnder_56 at h
  refine j_iconst B dX10_isUnder_56 (v := 1) (by decide) ?_
  refine j_goto (tgt := 61) B dX10_isUnder_57 (by decide) ?_
  have e1 := Option.some.inj h
  subst e1
  exact j_zret B E rfl (Or.inr rfl) dX10_isUnder_61 (Nat.le_refl _) (Nat.le_refl _) ⟨rfl, rfl, rfl, rfl⟩
def fX10_isUnder_44  (x0 : Int32) (x1 : Int32) : Option (Bool) := if x1 = 6 then if x0 = 7 then fX10_isUnder_56   else some (false) else some (false)
theorem tX10_isUnder_44 {G : GT} {sv : SV} {vi0 : VI} {vl0 : VL} {Γ : CT} {r : Bool} (B : Base G Γ mX10_isUnder 0 0 0) (E : Ends G Γ 0 0 (QI (b2i r) sv vi0 vl0)) : ∀ (x0 : Int32) (x1 : Int32), fX10_isUnder_44  x0 x1 = some (r) → J G Γ 0 0 44 [(0, .int x0), (1, .int x1)] [] sv vi0 vl0 := by
  intro x0 x1  h
  unfold fX10_isUnder_44 at h
  refine j_iload_n B dX10_isUnder_44 rfl 1 rfl ?_
  refine j_bipush B dX10_isUnder_45 (v := 6) (by decide) ?_
  refine j_icmp_ne (tgt := 60) B dX10_isUnder_47 (by decide) (fun c => ?_) (fun c => ?_)
  · replace h := h_neg c h
    refine j_iconst B dX10_isUnder_60 (v := 0) (by decide) ?_
    have e1 := Option.some.inj h
    subst e1
    exact j_zret B E rfl (Or.inl rfl) dX10_isUnder_61 (Nat.le_refl _) (Nat.le_refl _) ⟨rfl, rfl, rfl, rfl⟩
  · replace h := h_pos c h
    refine j_iload_n B dX10_isUnder_50 rfl 0 rfl ?_
    refine j_bipush B dX10_isUnder_51 (v := 7) (by decide) ?_
    refine j_icmp_ne (tgt := 60) B dX10_isUnder_53 (by decide) (fun c => ?_) (fun c => ?_)
    · replace h := h_neg c h
      refine j_iconst B dX10_isUnder_60 (v := 0) (by decide) ?_
      have e1 := Option.some.inj h
      subst e1
      exact j_zret B E rfl (Or.inl rfl) dX10_isUnder_61 (Nat.le_refl _) (Nat.le_refl _) ⟨rfl, rfl, rfl, rfl⟩
    · replace h := h_pos c h
      refine j_locals [] rfl ?_
      exact tX10_isUnder_56 B E    h
def fX10_isUnder_34  (x0 : Int32) (x1 : Int32) : Option (Bool) := if x1 = 3 then if x0 = 5 then fX10_isUnder_56   else fX10_isUnder_44  x0 x1 else fX10_isUnder_44  x0 x1
theorem tX10_isUnder_34 {G : GT} {sv : SV} {vi0 : VI} {vl0 : VL} {Γ : CT} {r : Bool} (B : Base G Γ mX10_isUnder 0 0 0) (E : Ends G Γ 0 0 (QI (b2i r) sv vi0 vl0)) : ∀ (x0 : Int32) (x1 : Int32), fX10_isUnder_34  x0 x1 = some (r) → J G Γ 0 0 34 [(0, .int x0), (1, .int x1)] [] sv vi0 vl0 := by
  intro x0 x1  h
  unfold fX10_isUnder_34 at h
  refine j_iload_n B dX10_isUnder_34 rfl 1 rfl ?_
  refine j_iconst B dX10_isUnder_35 (v := 3) (by decide) ?_
  refine j_icmp_ne (tgt := 44) B dX10_isUnder_36 (by decide) (fun c => ?_) (fun c => ?_)
  · replace h := h_neg c h
    refine j_locals [0, 1] rfl ?_
    exact tX10_isUnder_44 B E  (x0) (x1)  h
  · replace h := h_pos c h
    refine j_iload_n B dX10_isUnder_39 rfl 0 rfl ?_
    refine j_iconst B dX10_isUnder_40 (v := 5) (by decide) ?_
    refine j_icmp_eq (tgt := 56) B dX10_isUnder_41 (by decide) (fun c => ?_) (fun c => ?_)
    · replace h := h_pos c h
      refine j_locals [] rfl ?_
      exact tX10_isUnder_56 B E    h
    · replace h := h_neg c h
      refine j_locals [0, 1] rfl ?_
      exact tX10_isUnder_44 B E  (x0) (x1)  h
def fX10_isUnder_19  (x0 : Int32) (x1 : Int32) : Option (Bool) := if x1 = 2 then if x0 = 3 then fX10_isUnder_56   else if x0 = 5 then fX10_isUnder_56   else fX10_isUnder_34  x0 x1 else fX10_isUnder_34  x0 x1
theorem tX10_isUnder_19 {G : GT} {sv : SV} {vi0 : VI} {vl0 : VL} {Γ : CT} {r : Bool} (B : Base G Γ mX10_isUnder 0 0 0) (E : Ends G Γ 0 0 (QI (b2i r) sv vi0 vl0)) : ∀ (x0 : Int32) (x1 : Int32), fX10_isUnder_19  x0 x1 = some (r) → J G Γ 0 0 19 [(0, .int x0), (1, .int x1)] [] sv vi0 vl0 := by
  intro x0 x1  h
  unfold fX10_isUnder_19 at h
  refine j_iload_n B dX10_isUnder_19 rfl 1 rfl ?_
  refine j_iconst B dX10_isUnder_20 (v := 2) (by decide) ?_
  refine j_icmp_ne (tgt := 34) B dX10_isUnder_21 (by decide) (fun c => ?_) (fun c => ?_)
  · replace h := h_neg c h
    refine j_locals [0, 1] rfl ?_
    exact tX10_isUnder_34 B E  (x0) (x1)  h
  · replace h := h_pos c h
    refine j_iload_n B dX10_isUnder_24 rfl 0 rfl ?_
    refine j_iconst B dX10_isUnder_25 (v := 3) (by decide) ?_
    refine j_icmp_eq (tgt := 56) B dX10_isUnder_26 (by decide) (fun c => ?_) (fun c => ?_)
    · replace h := h_pos c h
      refine j_locals [] rfl ?_
      exact tX10_isUnder_56 B E    h
    · replace h := h_neg c h
      refine j_iload_n B dX10_isUnder_29 rfl 0 rfl ?_
      refine j_iconst B dX10_isUnder_30 (v := 5) (by decide) ?_
      refine j_icmp_eq (tgt := 56) B dX10_isUnder_31 (by decide) (fun c => ?_) (fun c => ?_)
      · replace h := h_pos c h
        refine j_locals [] rfl ?_
        exact tX10_isUnder_56 B E    h
      · replace h := h_neg c h
        refine j_locals [0, 1] rfl ?_
        exact tX10_isUnder_34 B E  (x0) (x1)  h
def fX10_isUnder (x0 : Int32) (x1 : Int32)  : Option (Bool) := if x1 = 0 then fX10_isUnder_56   else if x0 = x1 then fX10_isUnder_56   else if x1 = 1 then if x0 = 4 then fX10_isUnder_56   else fX10_isUnder_19  x0 x1 else fX10_isUnder_19  x0 x1
theorem tX10_isUnder {G : GT} {sv : SV} {vi0 : VI} {vl0 : VL} {x0 : Int32} {x1 : Int32} {r : Bool} (h : fX10_isUnder x0 x1 = some (r)) : Call G mX10_isUnder 0 0 0 [.int x0, .int x1] sv vi0 vl0 (QI (b2i r) sv vi0 vl0) := by
  refine j_mk (by decide +kernel) (Nat.le_of_ble_eq_true rfl) (fun Γ B E => ?_)
  show J G Γ 0 0 0 [(0, .int x0), (1, .int x1)] [] sv vi0 vl0
  unfold fX10_isUnder at h
  refine j_iload_n B dX10_isUnder_0 rfl 1 rfl ?_
  refine j_if_eq (tgt := 56) B dX10_isUnder_1 (by decide) (fun c => ?_) (fun c => ?_)
  · replace h := h_pos c h
    refine j_locals [] rfl ?_
    exact tX10_isUnder_56 B E    h
  · replace h := h_neg c h
    refine j_iload_n B dX10_isUnder_4 rfl 0 rfl ?_
    refine j_iload_n B dX10_isUnder_5 rfl 1 rfl ?_
    refine j_icmp_eq (tgt := 56) B dX10_isUnder_6 (by decide) (fun c => ?_) (fun c => ?_)
    · replace h := h_pos c h
      refine j_locals [] rfl ?_
      exact tX10_isUnder_56 B E    h
    · replace h := h_neg c h
      refine j_iload_n B dX10_isUnder_9 rfl 1 rfl ?_
      refine j_iconst B dX10_isUnder_10 (v := 1) (by decide) ?_
      refine j_icmp_ne (tgt := 19) B dX10_isUnder_11 (by decide) (fun c => ?_) (fun c => ?_)
      · replace h := h_neg c h
        refine j_locals [0, 1] rfl ?_
        exact tX10_isUnder_19 B E  (x0) (x1)  h
      · replace h := h_pos c h
        refine j_iload_n B dX10_isUnder_14 rfl 0 rfl ?_
        refine j_iconst B dX10_isUnder_15 (v := 4) (by decide) ?_
        refine j_icmp_eq (tgt := 56) B dX10_isUnder_16 (by decide) (fun c => ?_) (fun c => ?_)
        · replace h := h_pos c h
          refine j_locals [] rfl ?_
          exact tX10_isUnder_56 B E    h
        · replace h := h_neg c h
          refine j_locals [0, 1] rfl ?_
          exact tX10_isUnder_19 B E  (x0) (x1)  h
def fX10_plainLies (x1 : Int32) (x2 : Int32) (vi0 : VI) : Option (Int32 × VI) := (fX10_ran 1 vi0).bind fun r1 => some ((x2 + x1), r1)
theorem tX10_plainLies {G : GT} {sv : SV} {vi0 : VI} {vl0 : VL} {ns : Nat} {x1 : Int32} {x2 : Int32} {r : Int32} {vi' : VI} (hW : WF sv ns) (h : fX10_plainLies x1 x2 vi0 = some (r, vi')) : Call G mX10_plainLies 1 0 0 [.ref (G.1 + 63), .int x1, .int x2] sv vi0 vl0 (QI r sv vi' vl0) := by
  refine j_mk (by decide +kernel) (Nat.le_of_ble_eq_true rfl) (fun Γ B E => ?_)
  show J G Γ 0 0 0 [(0, .ref (G.1 + 63)), (1, .int x1), (2, .int x2)] [] sv vi0 vl0
  unfold fX10_plainLies at h
  refine j_aload_n B dX10_plainLies_0 rfl 0 rfl ?_
  refine j_iconst B dX10_plainLies_1 (v := 1) (by decide) ?_
  obtain ⟨r1, hr1, h⟩ := h_bind h
  refine j_cVV (rest := []) B (tX10_ran hW hr1) cls10 (wf_65 hW) jt_RX10_391 wi_X10_ran ws_X10_ran rfl (by decide) (Nat.le_refl _) (Nat.le_refl _) rfl (Nat.le_of_ble_eq_true rfl) dX10_plainLies_2 ?_
  refine j_iload_n B dX10_plainLies_5 rfl 2 rfl ?_
  refine j_iload_n B dX10_plainLies_6 rfl 1 rfl ?_
  refine j_iadd B dX10_plainLies_7 ?_
  obtain ⟨e1, e2⟩ := Prod.mk.inj (Option.some.inj h)
  subst e1
  subst e2
  exact j_iret B E rfl dX10_plainLies_8 (Nat.le_refl _) (Nat.le_refl _) ⟨rfl, rfl, rfl, rfl⟩
def fX10_panLies (x1 : Int32) (x2 : Int32) (vi0 : VI) : Option (Int32 × VI) := (fX10_ran 70 vi0).bind fun r1 => (fX10_plainLies x1 x2 r1).bind fun r2 => some ((r2.1 * 2), r2.2)
theorem tX10_panLies {G : GT} {sv : SV} {vi0 : VI} {vl0 : VL} {ns : Nat} {x1 : Int32} {x2 : Int32} {r : Int32} {vi' : VI} (hW : WF sv ns) (h : fX10_panLies x1 x2 vi0 = some (r, vi')) : Call G mX10_panLies 2 0 0 [.ref (G.1 + 63), .int x1, .int x2] sv vi0 vl0 (QI r sv vi' vl0) := by
  refine j_mk (by decide +kernel) (Nat.le_of_ble_eq_true rfl) (fun Γ B E => ?_)
  show J G Γ 0 0 0 [(0, .ref (G.1 + 63)), (1, .int x1), (2, .int x2)] [] sv vi0 vl0
  unfold fX10_panLies at h
  refine j_aload_n B dX10_panLies_0 rfl 0 rfl ?_
  refine j_bipush B dX10_panLies_1 (v := 70) (by decide) ?_
  obtain ⟨r1, hr1, h⟩ := h_bind h
  refine j_cVV (rest := []) B (tX10_ran hW hr1) cls10 (wf_65 hW) jt_RX10_391 wi_X10_ran ws_X10_ran rfl (by decide) (Nat.le_refl _) (Nat.le_refl _) rfl (Nat.le_of_ble_eq_true rfl) dX10_panLies_3 ?_
  refine j_aload_n B dX10_panLies_6 rfl 0 rfl ?_
  refine j_iload_n B dX10_panLies_7 rfl 1 rfl ?_
  refine j_iload_n B dX10_panLies_8 rfl 2 rfl ?_
  obtain ⟨r2, hr2, h⟩ := h_bind h
  refine j_cVI (rest := []) B (tX10_plainLies hW hr2) cls10 (wf_65 hW) jt_RX10_394 wi_X10_plainLies ws_X10_plainLies rfl (by decide) (Nat.le_refl _) (Nat.le_refl _) rfl (Nat.le_of_ble_eq_true rfl) dX10_panLies_9 ?_
  refine j_iconst B dX10_panLies_12 (v := 2) (by decide) ?_
  refine j_imul B dX10_panLies_13 ?_
  obtain ⟨e1, e2⟩ := Prod.mk.inj (Option.some.inj h)
  subst e1
  subst e2
  exact j_iret B E rfl dX10_panLies_14 (Nat.le_refl _) (Nat.le_refl _) ⟨rfl, rfl, rfl, rfl⟩
def fX10_lying (x1 : Int32) (x2 : Int32) (vi0 : VI) : Option (Int32 × VI) := if inb x1 50 = true then (fX10_isUnder (vi0 92 x1.toNatClampNeg) 1).bind fun r2 => if r2 = true then (fX10_ran 20 vi0).bind fun r9 => (fX10_plainLies x1 x2 r9).bind fun r10 => some ((r10.1 + 3), r10.2) else if inb x1 50 = true then if (vi0 92 x1.toNatClampNeg) = 7 then (fX10_ran 81 vi0).bind fun r7 => (fX10_panLies x1 x2 r7).bind fun r8 => some ((r8.1 - 1), r8.2) else if inb x1 50 = true then if (vi0 92 x1.toNatClampNeg) = 6 then (fX10_panLies x1 x2 vi0).bind fun r6 => some (r6.1, r6.2) else (fX10_plainLies x1 x2 vi0).bind fun r5 => some (r5.1, r5.2) else none else none else none
theorem tX10_lying {G : GT} {sv : SV} {vi0 : VI} {vl0 : VL} {ns : Nat} {x1 : Int32} {x2 : Int32} {r : Int32} {vi' : VI} (hW : WF sv ns) (h : fX10_lying x1 x2 vi0 = some (r, vi')) : Call G mX10_lying 3 0 0 [.ref (G.1 + 63), .int x1, .int x2] sv vi0 vl0 (QI r sv vi' vl0) := by
  refine j_mk (by decide +kernel) (Nat.le_of_ble_eq_true rfl) (fun Γ B E => ?_)
  show J G Γ 0 0 0 [(0, .ref (G.1 + 63)), (1, .int x1), (2, .int x2)] [] sv vi0 vl0
  unfold fX10_lying at h
  refine j_aload_n B dX10_lying_0 rfl 0 rfl ?_
  refine gf_RX10_99 B rfl (wf_65 hW) (wf_190 hW) dX10_lying_1 ?_
  refine j_iload_n B dX10_lying_4 rfl 1 rfl ?_
  obtain ⟨b1, h⟩ := h_inb h
  refine j_iald B ((wf_94 hW)) b1 dX10_lying_5 ?_
  refine j_iconst B dX10_lying_6 (v := 1) (by decide) ?_
  obtain ⟨r2, hr2, h⟩ := h_bind h
  refine j_cSI (rest := []) B (tX10_isUnder hr2) jt_RX10_397 wst_X10_isUnder rfl (by decide) (Nat.le_refl _) (Nat.le_refl _) rfl (Nat.le_of_ble_eq_true rfl) dX10_lying_7 ?_
  refine j_if_eq (tgt := 28) B dX10_lying_10 (by decide) (fun c => ?_) (fun c => ?_)
  · replace h := h_neg (b2i_0 c) h
    refine j_aload_n B dX10_lying_28 rfl 0 rfl ?_
    refine gf_RX10_99 B rfl (wf_65 hW) (wf_190 hW) dX10_lying_29 ?_
    refine j_iload_n B dX10_lying_32 rfl 1 rfl ?_
    obtain ⟨b3, h⟩ := h_inb h
    refine j_iald B ((wf_94 hW)) b3 dX10_lying_33 ?_
    refine j_bipush B dX10_lying_34 (v := 7) (by decide) ?_
    refine j_icmp_ne (tgt := 54) B dX10_lying_36 (by decide) (fun c => ?_) (fun c => ?_)
    · replace h := h_neg c h
      refine j_aload_n B dX10_lying_54 rfl 0 rfl ?_
      refine gf_RX10_99 B rfl (wf_65 hW) (wf_190 hW) dX10_lying_55 ?_
      refine j_iload_n B dX10_lying_58 rfl 1 rfl ?_
      obtain ⟨b4, h⟩ := h_inb h
      refine j_iald B ((wf_94 hW)) b4 dX10_lying_59 ?_
      refine j_bipush B dX10_lying_60 (v := 6) (by decide) ?_
      refine j_icmp_ne (tgt := 74) B dX10_lying_62 (by decide) (fun c => ?_) (fun c => ?_)
      · replace h := h_neg c h
        refine j_aload_n B dX10_lying_74 rfl 0 rfl ?_
        refine j_iload_n B dX10_lying_75 rfl 1 rfl ?_
        refine j_iload_n B dX10_lying_76 rfl 2 rfl ?_
        obtain ⟨r5, hr5, h⟩ := h_bind h
        refine j_cVI (rest := []) B (tX10_plainLies hW hr5) cls10 (wf_65 hW) jt_RX10_394 wi_X10_plainLies ws_X10_plainLies rfl (by decide) (Nat.le_refl _) (Nat.le_refl _) rfl (Nat.le_of_ble_eq_true rfl) dX10_lying_77 ?_
        obtain ⟨e1, e2⟩ := Prod.mk.inj (Option.some.inj h)
        subst e1
        subst e2
        exact j_iret B E rfl dX10_lying_80 (Nat.le_refl _) (Nat.le_refl _) ⟨rfl, rfl, rfl, rfl⟩
      · replace h := h_pos c h
        refine j_aload_n B dX10_lying_65 rfl 0 rfl ?_
        refine j_iload_n B dX10_lying_66 rfl 1 rfl ?_
        refine j_iload_n B dX10_lying_67 rfl 2 rfl ?_
        obtain ⟨r6, hr6, h⟩ := h_bind h
        refine j_cVI (rest := []) B (tX10_panLies hW hr6) cls10 (wf_65 hW) jt_RX10_400 wi_X10_panLies ws_X10_panLies rfl (by decide) (Nat.le_refl _) (Nat.le_refl _) rfl (Nat.le_of_ble_eq_true rfl) dX10_lying_68 ?_
        refine j_goto (tgt := 80) B dX10_lying_71 (by decide) ?_
        obtain ⟨e1, e2⟩ := Prod.mk.inj (Option.some.inj h)
        subst e1
        subst e2
        exact j_iret B E rfl dX10_lying_80 (Nat.le_refl _) (Nat.le_refl _) ⟨rfl, rfl, rfl, rfl⟩
    · replace h := h_pos c h
      refine j_aload_n B dX10_lying_39 rfl 0 rfl ?_
      refine j_bipush B dX10_lying_40 (v := 81) (by decide) ?_
      obtain ⟨r7, hr7, h⟩ := h_bind h
      refine j_cVV (rest := []) B (tX10_ran hW hr7) cls10 (wf_65 hW) jt_RX10_391 wi_X10_ran ws_X10_ran rfl (by decide) (Nat.le_refl _) (Nat.le_refl _) rfl (Nat.le_of_ble_eq_true rfl) dX10_lying_42 ?_
      refine j_aload_n B dX10_lying_45 rfl 0 rfl ?_
      refine j_iload_n B dX10_lying_46 rfl 1 rfl ?_
      refine j_iload_n B dX10_lying_47 rfl 2 rfl ?_
      obtain ⟨r8, hr8, h⟩ := h_bind h
      refine j_cVI (rest := []) B (tX10_panLies hW hr8) cls10 (wf_65 hW) jt_RX10_400 wi_X10_panLies ws_X10_panLies rfl (by decide) (Nat.le_refl _) (Nat.le_refl _) rfl (Nat.le_of_ble_eq_true rfl) dX10_lying_48 ?_
      refine j_iconst B dX10_lying_51 (v := 1) (by decide) ?_
      refine j_isub B dX10_lying_52 ?_
      obtain ⟨e1, e2⟩ := Prod.mk.inj (Option.some.inj h)
      subst e1
      subst e2
      exact j_iret B E rfl dX10_lying_53 (Nat.le_refl _) (Nat.le_refl _) ⟨rfl, rfl, rfl, rfl⟩
  · replace h := h_pos (b2i_1 c) h
    refine j_aload_n B dX10_lying_13 rfl 0 rfl ?_
    refine j_bipush B dX10_lying_14 (v := 20) (by decide) ?_
    obtain ⟨r9, hr9, h⟩ := h_bind h
    refine j_cVV (rest := []) B (tX10_ran hW hr9) cls10 (wf_65 hW) jt_RX10_391 wi_X10_ran ws_X10_ran rfl (by decide) (Nat.le_refl _) (Nat.le_refl _) rfl (Nat.le_of_ble_eq_true rfl) dX10_lying_16 ?_
    refine j_aload_n B dX10_lying_19 rfl 0 rfl ?_
    refine j_iload_n B dX10_lying_20 rfl 1 rfl ?_
    refine j_iload_n B dX10_lying_21 rfl 2 rfl ?_
    obtain ⟨r10, hr10, h⟩ := h_bind h
    refine j_cVI (rest := []) B (tX10_plainLies hW hr10) cls10 (wf_65 hW) jt_RX10_394 wi_X10_plainLies ws_X10_plainLies rfl (by decide) (Nat.le_refl _) (Nat.le_refl _) rfl (Nat.le_of_ble_eq_true rfl) dX10_lying_22 ?_
    refine j_iconst B dX10_lying_25 (v := 3) (by decide) ?_
    refine j_iadd B dX10_lying_26 ?_
    obtain ⟨e1, e2⟩ := Prod.mk.inj (Option.some.inj h)
    subst e1
    subst e2
    exact j_iret B E rfl dX10_lying_27 (Nat.le_refl _) (Nat.le_refl _) ⟨rfl, rfl, rfl, rfl⟩
def fX10_plainReads (x1 : Int32) (x2 : Int32) (vi0 : VI) : Option (Int32 × VI) := (fX10_ran 10 vi0).bind fun r1 => (fX10_lying x1 x2 r1).bind fun r2 => some ((r2.1 * 2), r2.2)
theorem tX10_plainReads {G : GT} {sv : SV} {vi0 : VI} {vl0 : VL} {ns : Nat} {x1 : Int32} {x2 : Int32} {r : Int32} {vi' : VI} (hW : WF sv ns) (h : fX10_plainReads x1 x2 vi0 = some (r, vi')) : Call G mX10_plainReads 4 0 0 [.ref (G.1 + 63), .int x1, .int x2] sv vi0 vl0 (QI r sv vi' vl0) := by
  refine j_mk (by decide +kernel) (Nat.le_of_ble_eq_true rfl) (fun Γ B E => ?_)
  show J G Γ 0 0 0 [(0, .ref (G.1 + 63)), (1, .int x1), (2, .int x2)] [] sv vi0 vl0
  unfold fX10_plainReads at h
  refine j_aload_n B dX10_plainReads_0 rfl 0 rfl ?_
  refine j_bipush B dX10_plainReads_1 (v := 10) (by decide) ?_
  obtain ⟨r1, hr1, h⟩ := h_bind h
  refine j_cVV (rest := []) B (tX10_ran hW hr1) cls10 (wf_65 hW) jt_RX10_391 wi_X10_ran ws_X10_ran rfl (by decide) (Nat.le_refl _) (Nat.le_refl _) rfl (Nat.le_of_ble_eq_true rfl) dX10_plainReads_3 ?_
  refine j_aload_n B dX10_plainReads_6 rfl 0 rfl ?_
  refine j_iload_n B dX10_plainReads_7 rfl 1 rfl ?_
  refine j_iload_n B dX10_plainReads_8 rfl 2 rfl ?_
  obtain ⟨r2, hr2, h⟩ := h_bind h
  refine j_cVI (rest := []) B (tX10_lying hW hr2) cls10 (wf_65 hW) jt_RX10_403 wi_X10_lying ws_X10_lying rfl (by decide) (Nat.le_refl _) (Nat.le_refl _) rfl (Nat.le_of_ble_eq_true rfl) dX10_plainReads_9 ?_
  refine j_iconst B dX10_plainReads_12 (v := 2) (by decide) ?_
  refine j_imul B dX10_plainReads_13 ?_
  obtain ⟨e1, e2⟩ := Prod.mk.inj (Option.some.inj h)
  subst e1
  subst e2
  exact j_iret B E rfl dX10_plainReads_14 (Nat.le_refl _) (Nat.le_refl _) ⟨rfl, rfl, rfl, rfl⟩
def fX10_thursdayReads (x1 : Int32) (x2 : Int32) (vi0 : VI) : Option (Int32 × VI) := (fX10_ran 30 vi0).bind fun r1 => (fX10_plainReads x1 x2 r1).bind fun r2 => some ((-r2.1), r2.2)
theorem tX10_thursdayReads {G : GT} {sv : SV} {vi0 : VI} {vl0 : VL} {ns : Nat} {x1 : Int32} {x2 : Int32} {r : Int32} {vi' : VI} (hW : WF sv ns) (h : fX10_thursdayReads x1 x2 vi0 = some (r, vi')) : Call G mX10_thursdayReads 5 0 0 [.ref (G.1 + 63), .int x1, .int x2] sv vi0 vl0 (QI r sv vi' vl0) := by
  refine j_mk (by decide +kernel) (Nat.le_of_ble_eq_true rfl) (fun Γ B E => ?_)
  show J G Γ 0 0 0 [(0, .ref (G.1 + 63)), (1, .int x1), (2, .int x2)] [] sv vi0 vl0
  unfold fX10_thursdayReads at h
  refine j_aload_n B dX10_thursdayReads_0 rfl 0 rfl ?_
  refine j_bipush B dX10_thursdayReads_1 (v := 30) (by decide) ?_
  obtain ⟨r1, hr1, h⟩ := h_bind h
  refine j_cVV (rest := []) B (tX10_ran hW hr1) cls10 (wf_65 hW) jt_RX10_391 wi_X10_ran ws_X10_ran rfl (by decide) (Nat.le_refl _) (Nat.le_refl _) rfl (Nat.le_of_ble_eq_true rfl) dX10_thursdayReads_3 ?_
  refine j_aload_n B dX10_thursdayReads_6 rfl 0 rfl ?_
  refine j_iload_n B dX10_thursdayReads_7 rfl 1 rfl ?_
  refine j_iload_n B dX10_thursdayReads_8 rfl 2 rfl ?_
  obtain ⟨r2, hr2, h⟩ := h_bind h
  refine j_cVI (rest := []) B (tX10_plainReads hW hr2) cls10 (wf_65 hW) jt_RX10_406 wi_X10_plainReads ws_X10_plainReads rfl (by decide) (Nat.le_refl _) (Nat.le_refl _) rfl (Nat.le_of_ble_eq_true rfl) dX10_thursdayReads_9 ?_
  refine j_ineg B dX10_thursdayReads_12 ?_
  obtain ⟨e1, e2⟩ := Prod.mk.inj (Option.some.inj h)
  subst e1
  subst e2
  exact j_iret B E rfl dX10_thursdayReads_13 (Nat.le_refl _) (Nat.le_refl _) ⟨rfl, rfl, rfl, rfl⟩
def fX10_plainFalls (x1 : Int32) (x2 : Int32) (vi0 : VI) : Option (Int32 × VI) := (fX10_ran 11 vi0).bind fun r1 => some ((x2 ^^^ x1), r1)
theorem tX10_plainFalls {G : GT} {sv : SV} {vi0 : VI} {vl0 : VL} {ns : Nat} {x1 : Int32} {x2 : Int32} {r : Int32} {vi' : VI} (hW : WF sv ns) (h : fX10_plainFalls x1 x2 vi0 = some (r, vi')) : Call G mX10_plainFalls 1 0 0 [.ref (G.1 + 63), .int x1, .int x2] sv vi0 vl0 (QI r sv vi' vl0) := by
  refine j_mk (by decide +kernel) (Nat.le_of_ble_eq_true rfl) (fun Γ B E => ?_)
  show J G Γ 0 0 0 [(0, .ref (G.1 + 63)), (1, .int x1), (2, .int x2)] [] sv vi0 vl0
  unfold fX10_plainFalls at h
  refine j_aload_n B dX10_plainFalls_0 rfl 0 rfl ?_
  refine j_bipush B dX10_plainFalls_1 (v := 11) (by decide) ?_
  obtain ⟨r1, hr1, h⟩ := h_bind h
  refine j_cVV (rest := []) B (tX10_ran hW hr1) cls10 (wf_65 hW) jt_RX10_391 wi_X10_ran ws_X10_ran rfl (by decide) (Nat.le_refl _) (Nat.le_refl _) rfl (Nat.le_of_ble_eq_true rfl) dX10_plainFalls_3 ?_
  refine j_iload_n B dX10_plainFalls_6 rfl 2 rfl ?_
  refine j_iload_n B dX10_plainFalls_7 rfl 1 rfl ?_
  refine j_ixor B dX10_plainFalls_8 ?_
  obtain ⟨e1, e2⟩ := Prod.mk.inj (Option.some.inj h)
  subst e1
  subst e2
  exact j_iret B E rfl dX10_plainFalls_9 (Nat.le_refl _) (Nat.le_refl _) ⟨rfl, rfl, rfl, rfl⟩
def fX10_cornerFalls (x1 : Int32) (x2 : Int32) (vi0 : VI) : Option (Int32 × VI) := (fX10_ran 40 vi0).bind fun r1 => (fX10_plainFalls x1 x2 r1).bind fun r2 => some ((r2.1 * 3), r2.2)
theorem tX10_cornerFalls {G : GT} {sv : SV} {vi0 : VI} {vl0 : VL} {ns : Nat} {x1 : Int32} {x2 : Int32} {r : Int32} {vi' : VI} (hW : WF sv ns) (h : fX10_cornerFalls x1 x2 vi0 = some (r, vi')) : Call G mX10_cornerFalls 2 0 0 [.ref (G.1 + 63), .int x1, .int x2] sv vi0 vl0 (QI r sv vi' vl0) := by
  refine j_mk (by decide +kernel) (Nat.le_of_ble_eq_true rfl) (fun Γ B E => ?_)
  show J G Γ 0 0 0 [(0, .ref (G.1 + 63)), (1, .int x1), (2, .int x2)] [] sv vi0 vl0
  unfold fX10_cornerFalls at h
  refine j_aload_n B dX10_cornerFalls_0 rfl 0 rfl ?_
  refine j_bipush B dX10_cornerFalls_1 (v := 40) (by decide) ?_
  obtain ⟨r1, hr1, h⟩ := h_bind h
  refine j_cVV (rest := []) B (tX10_ran hW hr1) cls10 (wf_65 hW) jt_RX10_391 wi_X10_ran ws_X10_ran rfl (by decide) (Nat.le_refl _) (Nat.le_refl _) rfl (Nat.le_of_ble_eq_true rfl) dX10_cornerFalls_3 ?_
  refine j_aload_n B dX10_cornerFalls_6 rfl 0 rfl ?_
  refine j_iload_n B dX10_cornerFalls_7 rfl 1 rfl ?_
  refine j_iload_n B dX10_cornerFalls_8 rfl 2 rfl ?_
  obtain ⟨r2, hr2, h⟩ := h_bind h
  refine j_cVI (rest := []) B (tX10_plainFalls hW hr2) cls10 (wf_65 hW) jt_RX10_415 wi_X10_plainFalls ws_X10_plainFalls rfl (by decide) (Nat.le_refl _) (Nat.le_refl _) rfl (Nat.le_of_ble_eq_true rfl) dX10_cornerFalls_9 ?_
  refine j_iconst B dX10_cornerFalls_12 (v := 3) (by decide) ?_
  refine j_imul B dX10_cornerFalls_13 ?_
  obtain ⟨e1, e2⟩ := Prod.mk.inj (Option.some.inj h)
  subst e1
  subst e2
  exact j_iret B E rfl dX10_cornerFalls_14 (Nat.le_refl _) (Nat.le_refl _) ⟨rfl, rfl, rfl, rfl⟩
def fX10_falling (x1 : Int32) (x2 : Int32) (vi0 : VI) : Option (Int32 × VI) := if inb x1 50 = true then if (vi0 92 x1.toNatClampNeg) = 5 then (fX10_ran 60 vi0).bind fun r5 => (fX10_cornerFalls x1 x2 r5).bind fun r6 => (fX10_lying x1 2 r6.2).bind fun r7 => some ((r6.1 - r7.1), r7.2) else if inb x1 50 = true then if (vi0 92 x1.toNatClampNeg) = 3 then (fX10_cornerFalls x1 x2 vi0).bind fun r4 => some (r4.1, r4.2) else (fX10_plainFalls x1 x2 vi0).bind fun r3 => some (r3.1, r3.2) else none else none
theorem tX10_falling {G : GT} {sv : SV} {vi0 : VI} {vl0 : VL} {ns : Nat} {x1 : Int32} {x2 : Int32} {r : Int32} {vi' : VI} (hW : WF sv ns) (h : fX10_falling x1 x2 vi0 = some (r, vi')) : Call G mX10_falling 4 0 0 [.ref (G.1 + 63), .int x1, .int x2] sv vi0 vl0 (QI r sv vi' vl0) := by
  refine j_mk (by decide +kernel) (Nat.le_of_ble_eq_true rfl) (fun Γ B E => ?_)
  show J G Γ 0 0 0 [(0, .ref (G.1 + 63)), (1, .int x1), (2, .int x2)] [] sv vi0 vl0
  unfold fX10_falling at h
  refine j_aload_n B dX10_falling_0 rfl 0 rfl ?_
  refine gf_RX10_99 B rfl (wf_65 hW) (wf_190 hW) dX10_falling_1 ?_
  refine j_iload_n B dX10_falling_4 rfl 1 rfl ?_
  obtain ⟨b1, h⟩ := h_inb h
  refine j_iald B ((wf_94 hW)) b1 dX10_falling_5 ?_
  refine j_iconst B dX10_falling_6 (v := 5) (by decide) ?_
  refine j_icmp_ne (tgt := 32) B dX10_falling_7 (by decide) (fun c => ?_) (fun c => ?_)
  · replace h := h_neg c h
    refine j_aload_n B dX10_falling_32 rfl 0 rfl ?_
    refine gf_RX10_99 B rfl (wf_65 hW) (wf_190 hW) dX10_falling_33 ?_
    refine j_iload_n B dX10_falling_36 rfl 1 rfl ?_
    obtain ⟨b2, h⟩ := h_inb h
    refine j_iald B ((wf_94 hW)) b2 dX10_falling_37 ?_
    refine j_iconst B dX10_falling_38 (v := 3) (by decide) ?_
    refine j_icmp_ne (tgt := 51) B dX10_falling_39 (by decide) (fun c => ?_) (fun c => ?_)
    · replace h := h_neg c h
      refine j_aload_n B dX10_falling_51 rfl 0 rfl ?_
      refine j_iload_n B dX10_falling_52 rfl 1 rfl ?_
      refine j_iload_n B dX10_falling_53 rfl 2 rfl ?_
      obtain ⟨r3, hr3, h⟩ := h_bind h
      refine j_cVI (rest := []) B (tX10_plainFalls hW hr3) cls10 (wf_65 hW) jt_RX10_415 wi_X10_plainFalls ws_X10_plainFalls rfl (by decide) (Nat.le_refl _) (Nat.le_refl _) rfl (Nat.le_of_ble_eq_true rfl) dX10_falling_54 ?_
      obtain ⟨e1, e2⟩ := Prod.mk.inj (Option.some.inj h)
      subst e1
      subst e2
      exact j_iret B E rfl dX10_falling_57 (Nat.le_refl _) (Nat.le_refl _) ⟨rfl, rfl, rfl, rfl⟩
    · replace h := h_pos c h
      refine j_aload_n B dX10_falling_42 rfl 0 rfl ?_
      refine j_iload_n B dX10_falling_43 rfl 1 rfl ?_
      refine j_iload_n B dX10_falling_44 rfl 2 rfl ?_
      obtain ⟨r4, hr4, h⟩ := h_bind h
      refine j_cVI (rest := []) B (tX10_cornerFalls hW hr4) cls10 (wf_65 hW) jt_RX10_418 wi_X10_cornerFalls ws_X10_cornerFalls rfl (by decide) (Nat.le_refl _) (Nat.le_refl _) rfl (Nat.le_of_ble_eq_true rfl) dX10_falling_45 ?_
      refine j_goto (tgt := 57) B dX10_falling_48 (by decide) ?_
      obtain ⟨e1, e2⟩ := Prod.mk.inj (Option.some.inj h)
      subst e1
      subst e2
      exact j_iret B E rfl dX10_falling_57 (Nat.le_refl _) (Nat.le_refl _) ⟨rfl, rfl, rfl, rfl⟩
  · replace h := h_pos c h
    refine j_aload_n B dX10_falling_10 rfl 0 rfl ?_
    refine j_bipush B dX10_falling_11 (v := 60) (by decide) ?_
    obtain ⟨r5, hr5, h⟩ := h_bind h
    refine j_cVV (rest := []) B (tX10_ran hW hr5) cls10 (wf_65 hW) jt_RX10_391 wi_X10_ran ws_X10_ran rfl (by decide) (Nat.le_refl _) (Nat.le_refl _) rfl (Nat.le_of_ble_eq_true rfl) dX10_falling_13 ?_
    refine j_aload_n B dX10_falling_16 rfl 0 rfl ?_
    refine j_iload_n B dX10_falling_17 rfl 1 rfl ?_
    refine j_iload_n B dX10_falling_18 rfl 2 rfl ?_
    obtain ⟨r6, hr6, h⟩ := h_bind h
    refine j_cVI (rest := []) B (tX10_cornerFalls hW hr6) cls10 (wf_65 hW) jt_RX10_418 wi_X10_cornerFalls ws_X10_cornerFalls rfl (by decide) (Nat.le_refl _) (Nat.le_refl _) rfl (Nat.le_of_ble_eq_true rfl) dX10_falling_19 ?_
    refine j_istore_n (L' := [(3, .int r6.1), (0, .ref (G.1 + 63)), (1, .int x1), (2, .int x2)]) B dX10_falling_22 rfl (by decide) rfl ?_
    refine j_iload_n B dX10_falling_23 rfl 0 rfl ?_
    refine j_aload_n B dX10_falling_24 rfl 1 rfl ?_
    refine j_iload_n B dX10_falling_25 rfl 2 rfl ?_
    refine j_iconst B dX10_falling_26 (v := 2) (by decide) ?_
    obtain ⟨r7, hr7, h⟩ := h_bind h
    refine j_cVI (rest := [.int r6.1]) B (tX10_lying hW hr7) cls10 (wf_65 hW) jt_RX10_403 wi_X10_lying ws_X10_lying rfl (by decide) (Nat.le_refl _) (Nat.le_refl _) rfl (Nat.le_of_ble_eq_true rfl) dX10_falling_27 ?_
    refine j_isub B dX10_falling_30 ?_
    obtain ⟨e1, e2⟩ := Prod.mk.inj (Option.some.inj h)
    subst e1
    subst e2
    exact j_iret B E rfl dX10_falling_31 (Nat.le_refl _) (Nat.le_refl _) ⟨rfl, rfl, rfl, rfl⟩
def fX10_reading (x1 : Int32) (x2 : Int32) (vi0 : VI) : Option (Int32 × VI) := if inb x1 50 = true then (fX10_isUnder (vi0 92 x1.toNatClampNeg) 3).bind fun r2 => if r2 = true then (fX10_ran 41 vi0).bind fun r10 => (fX10_thursdayReads x1 (x2 + 1) r10).bind fun r11 => some (r11.1, r11.2) else if inb x1 50 = true then if (vi0 92 x1.toNatClampNeg) = 7 then (fX10_ran 80 vi0).bind fun r7 => (fX10_plainReads x1 x2 r7).bind fun r8 => (fX10_falling x1 2 r8.2).bind fun r9 => some ((r8.1 + r9.1), r9.2) else if inb x1 50 = true then if (vi0 92 x1.toNatClampNeg) = 2 then (fX10_thursdayReads x1 x2 vi0).bind fun r6 => some (r6.1, r6.2) else (fX10_plainReads x1 x2 vi0).bind fun r5 => some (r5.1, r5.2) else none else none else none
theorem tX10_reading {G : GT} {sv : SV} {vi0 : VI} {vl0 : VL} {ns : Nat} {x1 : Int32} {x2 : Int32} {r : Int32} {vi' : VI} (hW : WF sv ns) (h : fX10_reading x1 x2 vi0 = some (r, vi')) : Call G mX10_reading 6 0 0 [.ref (G.1 + 63), .int x1, .int x2] sv vi0 vl0 (QI r sv vi' vl0) := by
  refine j_mk (by decide +kernel) (Nat.le_of_ble_eq_true rfl) (fun Γ B E => ?_)
  show J G Γ 0 0 0 [(0, .ref (G.1 + 63)), (1, .int x1), (2, .int x2)] [] sv vi0 vl0
  unfold fX10_reading at h
  refine j_aload_n B dX10_reading_0 rfl 0 rfl ?_
  refine gf_RX10_99 B rfl (wf_65 hW) (wf_190 hW) dX10_reading_1 ?_
  refine j_iload_n B dX10_reading_4 rfl 1 rfl ?_
  obtain ⟨b1, h⟩ := h_inb h
  refine j_iald B ((wf_94 hW)) b1 dX10_reading_5 ?_
  refine j_iconst B dX10_reading_6 (v := 3) (by decide) ?_
  obtain ⟨r2, hr2, h⟩ := h_bind h
  refine j_cSI (rest := []) B (tX10_isUnder hr2) jt_RX10_397 wst_X10_isUnder rfl (by decide) (Nat.le_refl _) (Nat.le_refl _) rfl (Nat.le_of_ble_eq_true rfl) dX10_reading_7 ?_
  refine j_if_eq (tgt := 28) B dX10_reading_10 (by decide) (fun c => ?_) (fun c => ?_)
  · replace h := h_neg (b2i_0 c) h
    refine j_aload_n B dX10_reading_28 rfl 0 rfl ?_
    refine gf_RX10_99 B rfl (wf_65 hW) (wf_190 hW) dX10_reading_29 ?_
    refine j_iload_n B dX10_reading_32 rfl 1 rfl ?_
    obtain ⟨b3, h⟩ := h_inb h
    refine j_iald B ((wf_94 hW)) b3 dX10_reading_33 ?_
    refine j_bipush B dX10_reading_34 (v := 7) (by decide) ?_
    refine j_icmp_ne (tgt := 61) B dX10_reading_36 (by decide) (fun c => ?_) (fun c => ?_)
    · replace h := h_neg c h
      refine j_aload_n B dX10_reading_61 rfl 0 rfl ?_
      refine gf_RX10_99 B rfl (wf_65 hW) (wf_190 hW) dX10_reading_62 ?_
      refine j_iload_n B dX10_reading_65 rfl 1 rfl ?_
      obtain ⟨b4, h⟩ := h_inb h
      refine j_iald B ((wf_94 hW)) b4 dX10_reading_66 ?_
      refine j_iconst B dX10_reading_67 (v := 2) (by decide) ?_
      refine j_icmp_ne (tgt := 80) B dX10_reading_68 (by decide) (fun c => ?_) (fun c => ?_)
      · replace h := h_neg c h
        refine j_aload_n B dX10_reading_80 rfl 0 rfl ?_
        refine j_iload_n B dX10_reading_81 rfl 1 rfl ?_
        refine j_iload_n B dX10_reading_82 rfl 2 rfl ?_
        obtain ⟨r5, hr5, h⟩ := h_bind h
        refine j_cVI (rest := []) B (tX10_plainReads hW hr5) cls10 (wf_65 hW) jt_RX10_406 wi_X10_plainReads ws_X10_plainReads rfl (by decide) (Nat.le_refl _) (Nat.le_refl _) rfl (Nat.le_of_ble_eq_true rfl) dX10_reading_83 ?_
        obtain ⟨e1, e2⟩ := Prod.mk.inj (Option.some.inj h)
        subst e1
        subst e2
        exact j_iret B E rfl dX10_reading_86 (Nat.le_refl _) (Nat.le_refl _) ⟨rfl, rfl, rfl, rfl⟩
      · replace h := h_pos c h
        refine j_aload_n B dX10_reading_71 rfl 0 rfl ?_
        refine j_iload_n B dX10_reading_72 rfl 1 rfl ?_
        refine j_iload_n B dX10_reading_73 rfl 2 rfl ?_
        obtain ⟨r6, hr6, h⟩ := h_bind h
        refine j_cVI (rest := []) B (tX10_thursdayReads hW hr6) cls10 (wf_65 hW) jt_RX10_409 wi_X10_thursdayReads ws_X10_thursdayReads rfl (by decide) (Nat.le_refl _) (Nat.le_refl _) rfl (Nat.le_of_ble_eq_true rfl) dX10_reading_74 ?_
        refine j_goto (tgt := 86) B dX10_reading_77 (by decide) ?_
        obtain ⟨e1, e2⟩ := Prod.mk.inj (Option.some.inj h)
        subst e1
        subst e2
        exact j_iret B E rfl dX10_reading_86 (Nat.le_refl _) (Nat.le_refl _) ⟨rfl, rfl, rfl, rfl⟩
    · replace h := h_pos c h
      refine j_aload_n B dX10_reading_39 rfl 0 rfl ?_
      refine j_bipush B dX10_reading_40 (v := 80) (by decide) ?_
      obtain ⟨r7, hr7, h⟩ := h_bind h
      refine j_cVV (rest := []) B (tX10_ran hW hr7) cls10 (wf_65 hW) jt_RX10_391 wi_X10_ran ws_X10_ran rfl (by decide) (Nat.le_refl _) (Nat.le_refl _) rfl (Nat.le_of_ble_eq_true rfl) dX10_reading_42 ?_
      refine j_aload_n B dX10_reading_45 rfl 0 rfl ?_
      refine j_iload_n B dX10_reading_46 rfl 1 rfl ?_
      refine j_iload_n B dX10_reading_47 rfl 2 rfl ?_
      obtain ⟨r8, hr8, h⟩ := h_bind h
      refine j_cVI (rest := []) B (tX10_plainReads hW hr8) cls10 (wf_65 hW) jt_RX10_406 wi_X10_plainReads ws_X10_plainReads rfl (by decide) (Nat.le_refl _) (Nat.le_refl _) rfl (Nat.le_of_ble_eq_true rfl) dX10_reading_48 ?_
      refine j_istore_n (L' := [(3, .int r8.1), (0, .ref (G.1 + 63)), (1, .int x1), (2, .int x2)]) B dX10_reading_51 rfl (by decide) rfl ?_
      refine j_iload_n B dX10_reading_52 rfl 0 rfl ?_
      refine j_aload_n B dX10_reading_53 rfl 1 rfl ?_
      refine j_iload_n B dX10_reading_54 rfl 2 rfl ?_
      refine j_iconst B dX10_reading_55 (v := 2) (by decide) ?_
      obtain ⟨r9, hr9, h⟩ := h_bind h
      refine j_cVI (rest := [.int r8.1]) B (tX10_falling hW hr9) cls10 (wf_65 hW) jt_RX10_412 wi_X10_falling ws_X10_falling rfl (by decide) (Nat.le_refl _) (Nat.le_refl _) rfl (Nat.le_of_ble_eq_true rfl) dX10_reading_56 ?_
      refine j_iadd B dX10_reading_59 ?_
      obtain ⟨e1, e2⟩ := Prod.mk.inj (Option.some.inj h)
      subst e1
      subst e2
      exact j_iret B E rfl dX10_reading_60 (Nat.le_refl _) (Nat.le_refl _) ⟨rfl, rfl, rfl, rfl⟩
  · replace h := h_pos (b2i_1 c) h
    refine j_aload_n B dX10_reading_13 rfl 0 rfl ?_
    refine j_bipush B dX10_reading_14 (v := 41) (by decide) ?_
    obtain ⟨r10, hr10, h⟩ := h_bind h
    refine j_cVV (rest := []) B (tX10_ran hW hr10) cls10 (wf_65 hW) jt_RX10_391 wi_X10_ran ws_X10_ran rfl (by decide) (Nat.le_refl _) (Nat.le_refl _) rfl (Nat.le_of_ble_eq_true rfl) dX10_reading_16 ?_
    refine j_aload_n B dX10_reading_19 rfl 0 rfl ?_
    refine j_iload_n B dX10_reading_20 rfl 1 rfl ?_
    refine j_iload_n B dX10_reading_21 rfl 2 rfl ?_
    refine j_iconst B dX10_reading_22 (v := 1) (by decide) ?_
    refine j_iadd B dX10_reading_23 ?_
    obtain ⟨r11, hr11, h⟩ := h_bind h
    refine j_cVI (rest := []) B (tX10_thursdayReads hW hr11) cls10 (wf_65 hW) jt_RX10_409 wi_X10_thursdayReads ws_X10_thursdayReads rfl (by decide) (Nat.le_refl _) (Nat.le_refl _) rfl (Nat.le_of_ble_eq_true rfl) dX10_reading_24 ?_
    obtain ⟨e1, e2⟩ := Prod.mk.inj (Option.some.inj h)
    subst e1
    subst e2
    exact j_iret B E rfl dX10_reading_27 (Nat.le_refl _) (Nat.le_refl _) ⟨rfl, rfl, rfl, rfl⟩
def fX10_plainTells (x1 : Int32) (x2 : Int32) (vi0 : VI) : Option (Int32 × VI) := (fX10_ran 2 vi0).bind fun r1 => (fX10_reading x1 x2 r1).bind fun r2 => (fX10_falling x1 1 r2.2).bind fun r3 => some ((r2.1 - r3.1), r3.2)
theorem tX10_plainTells {G : GT} {sv : SV} {vi0 : VI} {vl0 : VL} {ns : Nat} {x1 : Int32} {x2 : Int32} {r : Int32} {vi' : VI} (hW : WF sv ns) (h : fX10_plainTells x1 x2 vi0 = some (r, vi')) : Call G mX10_plainTells 7 0 0 [.ref (G.1 + 63), .int x1, .int x2] sv vi0 vl0 (QI r sv vi' vl0) := by
  refine j_mk (by decide +kernel) (Nat.le_of_ble_eq_true rfl) (fun Γ B E => ?_)
  show J G Γ 0 0 0 [(0, .ref (G.1 + 63)), (1, .int x1), (2, .int x2)] [] sv vi0 vl0
  unfold fX10_plainTells at h
  refine j_aload_n B dX10_plainTells_0 rfl 0 rfl ?_
  refine j_iconst B dX10_plainTells_1 (v := 2) (by decide) ?_
  obtain ⟨r1, hr1, h⟩ := h_bind h
  refine j_cVV (rest := []) B (tX10_ran hW hr1) cls10 (wf_65 hW) jt_RX10_391 wi_X10_ran ws_X10_ran rfl (by decide) (Nat.le_refl _) (Nat.le_refl _) rfl (Nat.le_of_ble_eq_true rfl) dX10_plainTells_2 ?_
  refine j_aload_n B dX10_plainTells_5 rfl 0 rfl ?_
  refine j_iload_n B dX10_plainTells_6 rfl 1 rfl ?_
  refine j_iload_n B dX10_plainTells_7 rfl 2 rfl ?_
  obtain ⟨r2, hr2, h⟩ := h_bind h
  refine j_cVI (rest := []) B (tX10_reading hW hr2) cls10 (wf_65 hW) jt_RX10_421 wi_X10_reading ws_X10_reading rfl (by decide) (Nat.le_refl _) (Nat.le_refl _) rfl (Nat.le_of_ble_eq_true rfl) dX10_plainTells_8 ?_
  refine j_istore_n (L' := [(3, .int r2.1), (0, .ref (G.1 + 63)), (1, .int x1), (2, .int x2)]) B dX10_plainTells_11 rfl (by decide) rfl ?_
  refine j_iload_n B dX10_plainTells_12 rfl 0 rfl ?_
  refine j_aload_n B dX10_plainTells_13 rfl 1 rfl ?_
  refine j_iload_n B dX10_plainTells_14 rfl 2 rfl ?_
  refine j_iconst B dX10_plainTells_15 (v := 1) (by decide) ?_
  obtain ⟨r3, hr3, h⟩ := h_bind h
  refine j_cVI (rest := [.int r2.1]) B (tX10_falling hW hr3) cls10 (wf_65 hW) jt_RX10_412 wi_X10_falling ws_X10_falling rfl (by decide) (Nat.le_refl _) (Nat.le_refl _) rfl (Nat.le_of_ble_eq_true rfl) dX10_plainTells_16 ?_
  refine j_isub B dX10_plainTells_19 ?_
  obtain ⟨e1, e2⟩ := Prod.mk.inj (Option.some.inj h)
  subst e1
  subst e2
  exact j_iret B E rfl dX10_plainTells_20 (Nat.le_refl _) (Nat.le_refl _) ⟨rfl, rfl, rfl, rfl⟩
def fX10_telling (x1 : Int32) (x2 : Int32) (vi0 : VI) : Option (Int32 × VI) := if inb x1 50 = true then if (vi0 92 x1.toNatClampNeg) = 4 then (fX10_ran 50 vi0).bind fun r6 => (fX10_plainTells x1 x2 r6).bind fun r7 => some ((r7.1 ^^^ 5), r7.2) else if inb x1 50 = true then if (vi0 92 x1.toNatClampNeg) = 5 then (fX10_ran 61 vi0).bind fun r4 => (fX10_plainTells x1 x2 r4).bind fun r5 => some ((r5.1 + 1), r5.2) else (fX10_plainTells x1 x2 vi0).bind fun r3 => some (r3.1, r3.2) else none else none
theorem tX10_telling {G : GT} {sv : SV} {vi0 : VI} {vl0 : VL} {ns : Nat} {x1 : Int32} {x2 : Int32} {r : Int32} {vi' : VI} (hW : WF sv ns) (h : fX10_telling x1 x2 vi0 = some (r, vi')) : Call G mX10_telling 8 0 0 [.ref (G.1 + 63), .int x1, .int x2] sv vi0 vl0 (QI r sv vi' vl0) := by
  refine j_mk (by decide +kernel) (Nat.le_of_ble_eq_true rfl) (fun Γ B E => ?_)
  show J G Γ 0 0 0 [(0, .ref (G.1 + 63)), (1, .int x1), (2, .int x2)] [] sv vi0 vl0
  unfold fX10_telling at h
  refine j_aload_n B dX10_telling_0 rfl 0 rfl ?_
  refine gf_RX10_99 B rfl (wf_65 hW) (wf_190 hW) dX10_telling_1 ?_
  refine j_iload_n B dX10_telling_4 rfl 1 rfl ?_
  obtain ⟨b1, h⟩ := h_inb h
  refine j_iald B ((wf_94 hW)) b1 dX10_telling_5 ?_
  refine j_iconst B dX10_telling_6 (v := 4) (by decide) ?_
  refine j_icmp_ne (tgt := 25) B dX10_telling_7 (by decide) (fun c => ?_) (fun c => ?_)
  · replace h := h_neg c h
    refine j_aload_n B dX10_telling_25 rfl 0 rfl ?_
    refine gf_RX10_99 B rfl (wf_65 hW) (wf_190 hW) dX10_telling_26 ?_
    refine j_iload_n B dX10_telling_29 rfl 1 rfl ?_
    obtain ⟨b2, h⟩ := h_inb h
    refine j_iald B ((wf_94 hW)) b2 dX10_telling_30 ?_
    refine j_iconst B dX10_telling_31 (v := 5) (by decide) ?_
    refine j_icmp_ne (tgt := 50) B dX10_telling_32 (by decide) (fun c => ?_) (fun c => ?_)
    · replace h := h_neg c h
      refine j_aload_n B dX10_telling_50 rfl 0 rfl ?_
      refine j_iload_n B dX10_telling_51 rfl 1 rfl ?_
      refine j_iload_n B dX10_telling_52 rfl 2 rfl ?_
      obtain ⟨r3, hr3, h⟩ := h_bind h
      refine j_cVI (rest := []) B (tX10_plainTells hW hr3) cls10 (wf_65 hW) jt_RX10_424 wi_X10_plainTells ws_X10_plainTells rfl (by decide) (Nat.le_refl _) (Nat.le_refl _) rfl (Nat.le_of_ble_eq_true rfl) dX10_telling_53 ?_
      obtain ⟨e1, e2⟩ := Prod.mk.inj (Option.some.inj h)
      subst e1
      subst e2
      exact j_iret B E rfl dX10_telling_56 (Nat.le_refl _) (Nat.le_refl _) ⟨rfl, rfl, rfl, rfl⟩
    · replace h := h_pos c h
      refine j_aload_n B dX10_telling_35 rfl 0 rfl ?_
      refine j_bipush B dX10_telling_36 (v := 61) (by decide) ?_
      obtain ⟨r4, hr4, h⟩ := h_bind h
      refine j_cVV (rest := []) B (tX10_ran hW hr4) cls10 (wf_65 hW) jt_RX10_391 wi_X10_ran ws_X10_ran rfl (by decide) (Nat.le_refl _) (Nat.le_refl _) rfl (Nat.le_of_ble_eq_true rfl) dX10_telling_38 ?_
      refine j_aload_n B dX10_telling_41 rfl 0 rfl ?_
      refine j_iload_n B dX10_telling_42 rfl 1 rfl ?_
      refine j_iload_n B dX10_telling_43 rfl 2 rfl ?_
      obtain ⟨r5, hr5, h⟩ := h_bind h
      refine j_cVI (rest := []) B (tX10_plainTells hW hr5) cls10 (wf_65 hW) jt_RX10_424 wi_X10_plainTells ws_X10_plainTells rfl (by decide) (Nat.le_refl _) (Nat.le_refl _) rfl (Nat.le_of_ble_eq_true rfl) dX10_telling_44 ?_
      refine j_iconst B dX10_telling_47 (v := 1) (by decide) ?_
      refine j_iadd B dX10_telling_48 ?_
      obtain ⟨e1, e2⟩ := Prod.mk.inj (Option.some.inj h)
      subst e1
      subst e2
      exact j_iret B E rfl dX10_telling_49 (Nat.le_refl _) (Nat.le_refl _) ⟨rfl, rfl, rfl, rfl⟩
  · replace h := h_pos c h
    refine j_aload_n B dX10_telling_10 rfl 0 rfl ?_
    refine j_bipush B dX10_telling_11 (v := 50) (by decide) ?_
    obtain ⟨r6, hr6, h⟩ := h_bind h
    refine j_cVV (rest := []) B (tX10_ran hW hr6) cls10 (wf_65 hW) jt_RX10_391 wi_X10_ran ws_X10_ran rfl (by decide) (Nat.le_refl _) (Nat.le_refl _) rfl (Nat.le_of_ble_eq_true rfl) dX10_telling_13 ?_
    refine j_aload_n B dX10_telling_16 rfl 0 rfl ?_
    refine j_iload_n B dX10_telling_17 rfl 1 rfl ?_
    refine j_iload_n B dX10_telling_18 rfl 2 rfl ?_
    obtain ⟨r7, hr7, h⟩ := h_bind h
    refine j_cVI (rest := []) B (tX10_plainTells hW hr7) cls10 (wf_65 hW) jt_RX10_424 wi_X10_plainTells ws_X10_plainTells rfl (by decide) (Nat.le_refl _) (Nat.le_refl _) rfl (Nat.le_of_ble_eq_true rfl) dX10_telling_19 ?_
    refine j_iconst B dX10_telling_22 (v := 5) (by decide) ?_
    refine j_ixor B dX10_telling_23 ?_
    obtain ⟨e1, e2⟩ := Prod.mk.inj (Option.some.inj h)
    subst e1
    subst e2
    exact j_iret B E rfl dX10_telling_24 (Nat.le_refl _) (Nat.le_refl _) ⟨rfl, rfl, rfl, rfl⟩
def fX10_act (x1 : Int32) (x2 : Int32) (x3 : Int32) (vi0 : VI) : Option (Int32 × VI) := (fX10_isBody x1 (j_up vi0 63 47 0)).bind fun r1 => if r1 = true then (fX10_in x2 0 3).bind fun r2 => if r2 = true then if x2 = 0 then (fX10_lying x1 x3 (j_up vi0 63 47 0)).bind fun r6 => some (r6.1, r6.2) else if x2 = 1 then (fX10_reading x1 x3 (j_up vi0 63 47 0)).bind fun r5 => some (r5.1, r5.2) else if x2 = 2 then (fX10_falling x1 x3 (j_up vi0 63 47 0)).bind fun r4 => some (r4.1, r4.2) else (fX10_telling x1 x3 (j_up vi0 63 47 0)).bind fun r3 => some (r3.1, r3.2) else some (0, (j_up vi0 63 47 0)) else some (0, (j_up vi0 63 47 0))
theorem tX10_act {G : GT} {sv : SV} {vi0 : VI} {vl0 : VL} {ns : Nat} {x1 : Int32} {x2 : Int32} {x3 : Int32} {r : Int32} {vi' : VI} (hW : WF sv ns) (h : fX10_act x1 x2 x3 vi0 = some (r, vi')) : Call G mX10_act 9 0 0 [.ref (G.1 + 63), .int x1, .int x2, .int x3] sv vi0 vl0 (QI r sv vi' vl0) := by
  refine j_mk (by decide +kernel) (Nat.le_of_ble_eq_true rfl) (fun Γ B E => ?_)
  show J G Γ 0 0 0 [(0, .ref (G.1 + 63)), (1, .int x1), (2, .int x2), (3, .int x3)] [] sv vi0 vl0
  unfold fX10_act at h
  refine j_aload_n B dX10_act_0 rfl 0 rfl ?_
  refine j_iconst B dX10_act_1 (v := 0) (by decide) ?_
  refine pf_RX10_388 B rfl (wf_65 hW) dX10_act_2 ?_
  refine j_aload_n B dX10_act_5 rfl 0 rfl ?_
  refine j_iload_n B dX10_act_6 rfl 1 rfl ?_
  obtain ⟨r1, hr1, h⟩ := h_bind h
  refine j_cVI (rest := []) B (tX10_isBody hW hr1) cls10 (wf_65 hW) jt_RX10_427 wi_X10_isBody ws_X10_isBody rfl (by decide) (Nat.le_refl _) (Nat.le_refl _) rfl (Nat.le_of_ble_eq_true rfl) dX10_act_7 ?_
  refine j_if_eq (tgt := 22) B dX10_act_10 (by decide) (fun c => ?_) (fun c => ?_)
  · replace h := h_neg (b2i_0 c) h
    refine j_iconst B dX10_act_22 (v := 0) (by decide) ?_
    obtain ⟨e1, e2⟩ := Prod.mk.inj (Option.some.inj h)
    subst e1
    subst e2
    exact j_iret B E rfl dX10_act_23 (Nat.le_refl _) (Nat.le_refl _) ⟨rfl, rfl, rfl, rfl⟩
  · replace h := h_pos (b2i_1 c) h
    refine j_iload_n B dX10_act_13 rfl 2 rfl ?_
    refine j_iconst B dX10_act_14 (v := 0) (by decide) ?_
    refine j_iconst B dX10_act_15 (v := 3) (by decide) ?_
    obtain ⟨r2, hr2, h⟩ := h_bind h
    refine j_cSI (rest := []) B (tX10_in hr2) jt_RX10_124 wst_X10_in rfl (by decide) (Nat.le_refl _) (Nat.le_refl _) rfl (Nat.le_of_ble_eq_true rfl) dX10_act_16 ?_
    refine j_if_ne (tgt := 24) B dX10_act_19 (by decide) (fun c => ?_) (fun c => ?_)
    · replace h := h_pos (b2i_1 c) h
      refine j_iload_n B dX10_act_24 rfl 2 rfl ?_
      refine j_if_ne (tgt := 37) B dX10_act_25 (by decide) (fun c => ?_) (fun c => ?_)
      · replace h := h_neg c h
        refine j_iload_n B dX10_act_37 rfl 2 rfl ?_
        refine j_iconst B dX10_act_38 (v := 1) (by decide) ?_
        refine j_icmp_ne (tgt := 51) B dX10_act_39 (by decide) (fun c => ?_) (fun c => ?_)
        · replace h := h_neg c h
          refine j_iload_n B dX10_act_51 rfl 2 rfl ?_
          refine j_iconst B dX10_act_52 (v := 2) (by decide) ?_
          refine j_icmp_ne (tgt := 65) B dX10_act_53 (by decide) (fun c => ?_) (fun c => ?_)
          · replace h := h_neg c h
            refine j_aload_n B dX10_act_65 rfl 0 rfl ?_
            refine j_iload_n B dX10_act_66 rfl 1 rfl ?_
            refine j_iload_n B dX10_act_67 rfl 3 rfl ?_
            obtain ⟨r3, hr3, h⟩ := h_bind h
            refine j_cVI (rest := []) B (tX10_telling hW hr3) cls10 (wf_65 hW) jt_RX10_430 wi_X10_telling ws_X10_telling rfl (by decide) (Nat.le_refl _) (Nat.le_refl _) rfl (Nat.le_of_ble_eq_true rfl) dX10_act_68 ?_
            obtain ⟨e1, e2⟩ := Prod.mk.inj (Option.some.inj h)
            subst e1
            subst e2
            exact j_iret B E rfl dX10_act_71 (Nat.le_refl _) (Nat.le_refl _) ⟨rfl, rfl, rfl, rfl⟩
          · replace h := h_pos c h
            refine j_aload_n B dX10_act_56 rfl 0 rfl ?_
            refine j_iload_n B dX10_act_57 rfl 1 rfl ?_
            refine j_iload_n B dX10_act_58 rfl 3 rfl ?_
            obtain ⟨r4, hr4, h⟩ := h_bind h
            refine j_cVI (rest := []) B (tX10_falling hW hr4) cls10 (wf_65 hW) jt_RX10_412 wi_X10_falling ws_X10_falling rfl (by decide) (Nat.le_refl _) (Nat.le_refl _) rfl (Nat.le_of_ble_eq_true rfl) dX10_act_59 ?_
            refine j_goto (tgt := 71) B dX10_act_62 (by decide) ?_
            obtain ⟨e1, e2⟩ := Prod.mk.inj (Option.some.inj h)
            subst e1
            subst e2
            exact j_iret B E rfl dX10_act_71 (Nat.le_refl _) (Nat.le_refl _) ⟨rfl, rfl, rfl, rfl⟩
        · replace h := h_pos c h
          refine j_aload_n B dX10_act_42 rfl 0 rfl ?_
          refine j_iload_n B dX10_act_43 rfl 1 rfl ?_
          refine j_iload_n B dX10_act_44 rfl 3 rfl ?_
          obtain ⟨r5, hr5, h⟩ := h_bind h
          refine j_cVI (rest := []) B (tX10_reading hW hr5) cls10 (wf_65 hW) jt_RX10_421 wi_X10_reading ws_X10_reading rfl (by decide) (Nat.le_refl _) (Nat.le_refl _) rfl (Nat.le_of_ble_eq_true rfl) dX10_act_45 ?_
          refine j_goto (tgt := 71) B dX10_act_48 (by decide) ?_
          obtain ⟨e1, e2⟩ := Prod.mk.inj (Option.some.inj h)
          subst e1
          subst e2
          exact j_iret B E rfl dX10_act_71 (Nat.le_refl _) (Nat.le_refl _) ⟨rfl, rfl, rfl, rfl⟩
      · replace h := h_pos c h
        refine j_aload_n B dX10_act_28 rfl 0 rfl ?_
        refine j_iload_n B dX10_act_29 rfl 1 rfl ?_
        refine j_iload_n B dX10_act_30 rfl 3 rfl ?_
        obtain ⟨r6, hr6, h⟩ := h_bind h
        refine j_cVI (rest := []) B (tX10_lying hW hr6) cls10 (wf_65 hW) jt_RX10_403 wi_X10_lying ws_X10_lying rfl (by decide) (Nat.le_refl _) (Nat.le_refl _) rfl (Nat.le_of_ble_eq_true rfl) dX10_act_31 ?_
        refine j_goto (tgt := 71) B dX10_act_34 (by decide) ?_
        obtain ⟨e1, e2⟩ := Prod.mk.inj (Option.some.inj h)
        subst e1
        subst e2
        exact j_iret B E rfl dX10_act_71 (Nat.le_refl _) (Nat.le_refl _) ⟨rfl, rfl, rfl, rfl⟩
    · replace h := h_neg (b2i_0 c) h
      refine j_iconst B dX10_act_22 (v := 0) (by decide) ?_
      obtain ⟨e1, e2⟩ := Prod.mk.inj (Option.some.inj h)
      subst e1
      subst e2
      exact j_iret B E rfl dX10_act_23 (Nat.le_refl _) (Nat.le_refl _) ⟨rfl, rfl, rfl, rfl⟩
def fX10_count (x1 : Int32) (vi0 : VI) : Option (Int32) := if x1 = 0 then some ((vi0 63 1)) else if x1 = 1 then some ((vi0 63 16)) else if x1 = 2 then some ((vi0 63 9)) else if x1 = 3 then some ((vi0 63 45)) else if x1 = 4 then some ((vi0 63 47)) else some ((-1))
theorem tX10_count {G : GT} {sv : SV} {vi0 : VI} {vl0 : VL} {ns : Nat} {x1 : Int32} {r : Int32} (hW : WF sv ns) (h : fX10_count x1 vi0 = some (r)) : Call G mX10_count 0 0 0 [.ref (G.1 + 63), .int x1] sv vi0 vl0 (QI r sv vi0 vl0) := by
  refine j_mk (by decide +kernel) (Nat.le_of_ble_eq_true rfl) (fun Γ B E => ?_)
  show J G Γ 0 0 0 [(0, .ref (G.1 + 63)), (1, .int x1)] [] sv vi0 vl0
  unfold fX10_count at h
  refine j_iload_n B dX10_count_0 rfl 1 rfl ?_
  by_cases c0 : x1 = 0
  · replace h := h_pos c0 h
    refine j_tableIn (off := 35) (tgt := 36) B dX10_count_1 (by rw [c0]; decide) (by rw [c0]; decide) (by rw [c0]; decide) (by decide) ?_
    refine j_aload_n B dX10_count_36 rfl 0 rfl ?_
    refine gf_RX10_121 B rfl (wf_65 hW) dX10_count_37 ?_
    have e1 := Option.some.inj h
    subst e1
    exact j_iret B E rfl dX10_count_40 (Nat.le_refl _) (Nat.le_refl _) ⟨rfl, rfl, rfl, rfl⟩
  replace h := h_neg c0 h
  by_cases c1 : x1 = 1
  · replace h := h_pos c1 h
    refine j_tableIn (off := 40) (tgt := 41) B dX10_count_1 (by rw [c1]; decide) (by rw [c1]; decide) (by rw [c1]; decide) (by decide) ?_
    refine j_aload_n B dX10_count_41 rfl 0 rfl ?_
    refine gf_RX10_180 B rfl (wf_65 hW) dX10_count_42 ?_
    have e1 := Option.some.inj h
    subst e1
    exact j_iret B E rfl dX10_count_45 (Nat.le_refl _) (Nat.le_refl _) ⟨rfl, rfl, rfl, rfl⟩
  replace h := h_neg c1 h
  by_cases c2 : x1 = 2
  · replace h := h_pos c2 h
    refine j_tableIn (off := 45) (tgt := 46) B dX10_count_1 (by rw [c2]; decide) (by rw [c2]; decide) (by rw [c2]; decide) (by decide) ?_
    refine j_aload_n B dX10_count_46 rfl 0 rfl ?_
    refine gf_RX10_145 B rfl (wf_65 hW) dX10_count_47 ?_
    have e1 := Option.some.inj h
    subst e1
    exact j_iret B E rfl dX10_count_50 (Nat.le_refl _) (Nat.le_refl _) ⟨rfl, rfl, rfl, rfl⟩
  replace h := h_neg c2 h
  by_cases c3 : x1 = 3
  · replace h := h_pos c3 h
    refine j_tableIn (off := 50) (tgt := 51) B dX10_count_1 (by rw [c3]; decide) (by rw [c3]; decide) (by rw [c3]; decide) (by decide) ?_
    refine j_aload_n B dX10_count_51 rfl 0 rfl ?_
    refine gf_RX10_385 B rfl (wf_65 hW) dX10_count_52 ?_
    have e1 := Option.some.inj h
    subst e1
    exact j_iret B E rfl dX10_count_55 (Nat.le_refl _) (Nat.le_refl _) ⟨rfl, rfl, rfl, rfl⟩
  replace h := h_neg c3 h
  by_cases c4 : x1 = 4
  · replace h := h_pos c4 h
    refine j_tableIn (off := 55) (tgt := 56) B dX10_count_1 (by rw [c4]; decide) (by rw [c4]; decide) (by rw [c4]; decide) (by decide) ?_
    refine j_aload_n B dX10_count_56 rfl 0 rfl ?_
    refine gf_RX10_388 B rfl (wf_65 hW) dX10_count_57 ?_
    have e1 := Option.some.inj h
    subst e1
    exact j_iret B E rfl dX10_count_60 (Nat.le_refl _) (Nat.le_refl _) ⟨rfl, rfl, rfl, rfl⟩
  replace h := h_neg c4 h
  refine j_tableOut (tgt := 61) B dX10_count_1 (by have n0 := lv_neT c0 (a := 0) (by decide); have n1 := lv_neT c1 (a := 1) (by decide); have n2 := lv_neT c2 (a := 2) (by decide); have n3 := lv_neT c3 (a := 3) (by decide); have n4 := lv_neT c4 (a := 4) (by decide); omega) (by decide) ?_
  refine j_iconst B dX10_count_61 (v := (-1)) (by decide) ?_
  have e1 := Option.some.inj h
  subst e1
  exact j_iret B E rfl dX10_count_62 (Nat.le_refl _) (Nat.le_refl _) ⟨rfl, rfl, rfl, rfl⟩
