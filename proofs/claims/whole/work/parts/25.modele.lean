def fX10_clear_64  (k35 : Int32 → Int32 → Int32 → Int32 → VI → Option (Int32 × VI)) (x2 : Int32) (x3 : Int32) (x4 : Int32) (x5 : Int32) (vi : VI) : Option (Int32 × VI) := k35 x2 x3 x4 (x5 + (-1)) vi
theorem tX10_clear_64 {G : GT} {sv : SV} {vl0 : VL} {ns : Nat} {Γ : CT} {r : Int32} {vi' : VI} {k35 : Int32 → Int32 → Int32 → Int32 → VI → Option (Int32 × VI)} (B : Base G Γ mX10_clear 2 0 0) (E : Ends G Γ 0 0 (QI r sv vi' vl0)) (hW : WF sv ns) (hk35 : ∀ (x2 : Int32) (x3 : Int32) (x4 : Int32) (x5 : Int32) (vi : VI), k35 x2 x3 x4 x5 vi = some (r, vi') → J G Γ 0 0 35 [(0, .ref (G.1 + 63)), (2, .int x2), (3, .int x3), (4, .int x4), (5, .int x5)] [] sv vi vl0) : ∀ (x2 : Int32) (x3 : Int32) (x4 : Int32) (x5 : Int32) (vi : VI), fX10_clear_64 k35 x2 x3 x4 x5 vi = some (r, vi') → J G Γ 0 0 64 [(0, .ref (G.1 + 63)), (2, .int x2), (3, .int x3), (4, .int x4), (5, .int x5)] [] sv vi vl0 := by
  intro x2 x3 x4 x5 vi  h
  unfold fX10_clear_64 at h
  refine j_iinc (v := (x5 + (-1))) (L' := [(5, .int (x5 + (-1))), (0, .ref (G.1 + 63)), (2, .int x2), (3, .int x3), (4, .int x4)]) B dX10_clear_64 4 rfl rfl (by decide) rfl ?_
  refine j_goto (tgt := 35) B dX10_clear_67 (by decide) ?_
  refine j_locals [1, 2, 3, 4, 0] rfl ?_
  exact hk35 (x2) (x3) (x4) ((x5 + (-1))) (vi)  h
def fX10_clear_35  : Nat → Int32 → Int32 → Int32 → Int32 → VI → Option (Int32 × VI)
  | 0, _, _, _, _, _ => none
  | F + 1, x2, x3, x4, x5, vi => if x5 < 0 then some (x4, vi) else if inb x5 13 = true then if inb x5 13 = true then if (vi 82 x5.toNatClampNeg) = x2 then fX10_clear_64 (fX10_clear_35  F) x2 (x3 + (vi 83 x5.toNatClampNeg)) (x3 + (vi 83 x5.toNatClampNeg)) x5 vi else fX10_clear_64 (fX10_clear_35  F) x2 (x3 + (vi 83 x5.toNatClampNeg)) x4 x5 vi else none else none
theorem tX10_clear_35 {G : GT} {sv : SV} {vl0 : VL} {ns : Nat} {Γ : CT} {r : Int32} {vi' : VI} (B : Base G Γ mX10_clear 2 0 0) (E : Ends G Γ 0 0 (QI r sv vi' vl0)) (hW : WF sv ns) : ∀ (F : Nat) (x2 : Int32) (x3 : Int32) (x4 : Int32) (x5 : Int32) (vi : VI), fX10_clear_35  F x2 x3 x4 x5 vi = some (r, vi') → J G Γ 0 0 35 [(0, .ref (G.1 + 63)), (2, .int x2), (3, .int x3), (4, .int x4), (5, .int x5)] [] sv vi vl0 := by
  intro F
  induction F with
  | zero =>
    intro x2 x3 x4 x5 vi  h
    cases (show (none : Option (Int32 × VI)) = some (r, vi') from h)
  | succ F ih =>
    intro x2 x3 x4 x5 vi  h
    rw [fX10_clear_35] at h
    refine j_iload B dX10_clear_35 4 rfl ?_
    refine j_if_lt (tgt := 70) B dX10_clear_37 (by decide) (fun c => ?_) (fun c => ?_)
    · replace h := h_pos c h
      refine j_iload B dX10_clear_70 3 rfl ?_
      obtain ⟨e1, e2⟩ := Prod.mk.inj (Option.some.inj h)
      subst e1
      subst e2
      exact j_iret B E rfl dX10_clear_72 (Nat.le_refl _) (Nat.le_refl _) ⟨rfl, rfl, rfl, rfl⟩
    · replace h := h_neg c h
      refine j_iload_n B dX10_clear_40 rfl 2 rfl ?_
      refine j_aload_n B dX10_clear_41 rfl 0 rfl ?_
      refine gf_RX10_71 B rfl (wf_65 hW) (wf_181 hW) dX10_clear_42 ?_
      refine j_iload B dX10_clear_45 4 rfl ?_
      obtain ⟨b4, h⟩ := h_inb h
      refine j_iald B ((wf_85 hW)) b4 dX10_clear_47 ?_
      refine j_iadd B dX10_clear_48 ?_
      refine j_istore_n (L' := [(3, .int (x3 + (vi 83 x5.toNatClampNeg))), (0, .ref (G.1 + 63)), (2, .int x2), (4, .int x4), (5, .int x5)]) B dX10_clear_49 rfl (by decide) rfl ?_
      refine j_aload_n B dX10_clear_50 rfl 1 rfl ?_
      refine gf_RX10_68 B rfl (wf_65 hW) (wf_180 hW) dX10_clear_51 ?_
      refine j_iload B dX10_clear_54 4 rfl ?_
      obtain ⟨b5, h⟩ := h_inb h
      refine j_iald B ((wf_84 hW)) b5 dX10_clear_56 ?_
      refine j_iload_n B dX10_clear_57 rfl 2 rfl ?_
      refine j_icmp_ne (tgt := 64) B dX10_clear_58 (by decide) (fun c => ?_) (fun c => ?_)
      · replace h := h_neg c h
        refine j_locals [1, 2, 0, 3, 4] rfl ?_
        exact tX10_clear_64 B E hW ih (x2) ((x3 + (vi 83 x5.toNatClampNeg))) (x4) (x5) (vi)  h
      · replace h := h_pos c h
        refine j_iload_n B dX10_clear_61 rfl 0 rfl ?_
        refine j_istore (L' := [(4, .int (x3 + (vi 83 x5.toNatClampNeg))), (3, .int (x3 + (vi 83 x5.toNatClampNeg))), (0, .ref (G.1 + 63)), (2, .int x2), (5, .int x5)]) B dX10_clear_62 (by decide) rfl ?_
        refine j_locals [2, 3, 1, 0, 4] rfl ?_
        exact tX10_clear_64 B E hW ih (x2) ((x3 + (vi 83 x5.toNatClampNeg))) ((x3 + (vi 83 x5.toNatClampNeg))) (x5) (vi)  h
def fX10_clear (x1 : Int32) (x2 : Int32) (vi0 : VI) : Option (Int32 × VI) := (fX10_isSill x1 vi0).bind fun r1 => if r1 = true then (fX10_isPerson x2).bind fun r2 => if r2 = true then (fX10_layNow x1 vi0).bind fun r3 => fX10_clear_35  FU x2 0 0 ((r3 63 30) - 1) r3 else some ((-1), vi0) else some ((-1), vi0)
theorem tX10_clear {G : GT} {sv : SV} {vi0 : VI} {vl0 : VL} {ns : Nat} {x1 : Int32} {x2 : Int32} {r : Int32} {vi' : VI} (hW : WF sv ns) (h : fX10_clear x1 x2 vi0 = some (r, vi')) : Call G mX10_clear 2 0 0 [.ref (G.1 + 63), .int x1, .int x2] sv vi0 vl0 (QI r sv vi' vl0) := by
  refine j_mk (by decide +kernel) (Nat.le_of_ble_eq_true rfl) (fun Γ B E => ?_)
  show J G Γ 0 0 0 [(0, .ref (G.1 + 63)), (1, .int x1), (2, .int x2)] [] sv vi0 vl0
  unfold fX10_clear at h
  refine j_aload_n B dX10_clear_0 rfl 0 rfl ?_
  refine j_iload_n B dX10_clear_1 rfl 1 rfl ?_
  obtain ⟨r1, hr1, h⟩ := h_bind h
  refine j_cVI (rest := []) B (tX10_isSill hW hr1) cls10 (wf_65 hW) jt_RX10_152 wi_X10_isSill ws_X10_isSill rfl (by decide) (Nat.le_refl _) (Nat.le_refl _) rfl (Nat.le_of_ble_eq_true rfl) dX10_clear_2 ?_
  refine j_if_eq (tgt := 15) B dX10_clear_5 (by decide) (fun c => ?_) (fun c => ?_)
  · replace h := h_neg (b2i_0 c) h
    refine j_iconst B dX10_clear_15 (v := (-1)) (by decide) ?_
    obtain ⟨e1, e2⟩ := Prod.mk.inj (Option.some.inj h)
    subst e1
    subst e2
    exact j_iret B E rfl dX10_clear_16 (Nat.le_refl _) (Nat.le_refl _) ⟨rfl, rfl, rfl, rfl⟩
  · replace h := h_pos (b2i_1 c) h
    refine j_iload_n B dX10_clear_8 rfl 2 rfl ?_
    obtain ⟨r2, hr2, h⟩ := h_bind h
    refine j_cSI (rest := []) B (tX10_isPerson hr2) jt_RX10_155 wst_X10_isPerson rfl (by decide) (Nat.le_refl _) (Nat.le_refl _) rfl (Nat.le_of_ble_eq_true rfl) dX10_clear_9 ?_
    refine j_if_ne (tgt := 17) B dX10_clear_12 (by decide) (fun c => ?_) (fun c => ?_)
    · replace h := h_pos (b2i_1 c) h
      refine j_aload_n B dX10_clear_17 rfl 0 rfl ?_
      refine j_iload_n B dX10_clear_18 rfl 1 rfl ?_
      obtain ⟨r3, hr3, h⟩ := h_bind h
      refine j_cVV (rest := []) B (tX10_layNow hW hr3) cls10 (wf_65 hW) jt_RX10_169 wi_X10_layNow ws_X10_layNow rfl (by decide) (Nat.le_refl _) (Nat.le_refl _) rfl (Nat.le_of_ble_eq_true rfl) dX10_clear_19 ?_
      refine j_iconst B dX10_clear_22 (v := 0) (by decide) ?_
      refine j_istore_n (L' := [(3, .int 0), (0, .ref (G.1 + 63)), (1, .int x1), (2, .int x2)]) B dX10_clear_23 rfl (by decide) rfl ?_
      refine j_iconst B dX10_clear_24 (v := 0) (by decide) ?_
      refine j_istore (L' := [(4, .int 0), (3, .int 0), (0, .ref (G.1 + 63)), (1, .int x1), (2, .int x2)]) B dX10_clear_25 (by decide) rfl ?_
      refine j_aload_n B dX10_clear_27 rfl 2 rfl ?_
      refine gf_RX10_173 B rfl (wf_65 hW) dX10_clear_28 ?_
      refine j_iconst B dX10_clear_31 (v := 1) (by decide) ?_
      refine j_isub B dX10_clear_32 ?_
      refine j_istore (L' := [(5, .int ((r3 63 30) - 1)), (4, .int 0), (3, .int 0), (0, .ref (G.1 + 63)), (1, .int x1), (2, .int x2)]) B dX10_clear_33 (by decide) rfl ?_
      refine j_locals [3, 5, 2, 1, 0] rfl ?_
      exact tX10_clear_35 B E hW FU (x2) (0) (0) (((r3 63 30) - 1)) (r3)  h
    · replace h := h_neg (b2i_0 c) h
      refine j_iconst B dX10_clear_15 (v := (-1)) (by decide) ?_
      obtain ⟨e1, e2⟩ := Prod.mk.inj (Option.some.inj h)
      subst e1
      subst e2
      exact j_iret B E rfl dX10_clear_16 (Nat.le_refl _) (Nat.le_refl _) ⟨rfl, rfl, rfl, rfl⟩
def fX10_touch_35  : Nat → Int32 → Int32 → Int32 → VI → Option (Int32 × VI)
  | 0, _, _, _, _ => none
  | F + 1, x2, x3, x4, vi => if 60 < x4 then some ((-2), vi) else (fX10_mostNow vi).bind fun r5 => if r5 = x2 then some (x4, vi) else (fX10_goLook x2 x3 vi).bind fun r6 => fX10_touch_35  F x2 x3 (x4 + 1) r6.2
theorem tX10_touch_35 {G : GT} {sv : SV} {vl0 : VL} {ns : Nat} {Γ : CT} {r : Int32} {vi' : VI} (B : Base G Γ mX10_touch 5 0 0) (E : Ends G Γ 0 0 (QI r sv vi' vl0)) (hW : WF sv ns) : ∀ (F : Nat) (x2 : Int32) (x3 : Int32) (x4 : Int32) (vi : VI), fX10_touch_35  F x2 x3 x4 vi = some (r, vi') → J G Γ 0 0 35 [(0, .ref (G.1 + 63)), (2, .int x2), (3, .int x3), (4, .int x4)] [] sv vi vl0 := by
  intro F
  induction F with
  | zero =>
    intro x2 x3 x4 vi  h
    cases (show (none : Option (Int32 × VI)) = some (r, vi') from h)
  | succ F ih =>
    intro x2 x3 x4 vi  h
    rw [fX10_touch_35] at h
    refine j_iload B dX10_touch_35 3 rfl ?_
    refine j_bipush B dX10_touch_37 (v := 60) (by decide) ?_
    refine j_icmp_gt (tgt := 66) B dX10_touch_39 (by decide) (fun c => ?_) (fun c => ?_)
    · replace h := h_pos c h
      refine j_bipush B dX10_touch_66 (v := (-2)) (by decide) ?_
      obtain ⟨e1, e2⟩ := Prod.mk.inj (Option.some.inj h)
      subst e1
      subst e2
      exact j_iret B E rfl dX10_touch_68 (Nat.le_refl _) (Nat.le_refl _) ⟨rfl, rfl, rfl, rfl⟩
    · replace h := h_neg c h
      refine j_aload_n B dX10_touch_42 rfl 0 rfl ?_
      obtain ⟨r5, hr5, h⟩ := h_bind h
      refine j_cVI (rest := []) B (tX10_mostNow hW hr5) cls10 (wf_65 hW) jt_RX10_296 wi_X10_mostNow ws_X10_mostNow rfl (by decide) (Nat.le_refl _) (Nat.le_refl _) rfl (Nat.le_of_ble_eq_true rfl) dX10_touch_43 ?_
      refine j_iload_n B dX10_touch_46 rfl 1 rfl ?_
      refine j_icmp_ne (tgt := 53) B dX10_touch_47 (by decide) (fun c => ?_) (fun c => ?_)
      · replace h := h_neg c h
        refine j_aload_n B dX10_touch_53 rfl 0 rfl ?_
        refine j_iload_n B dX10_touch_54 rfl 1 rfl ?_
        refine j_iload_n B dX10_touch_55 rfl 2 rfl ?_
        obtain ⟨r6, hr6, h⟩ := h_bind h
        refine j_cVI (rest := []) B (tX10_goLook hW hr6) cls10 (wf_65 hW) jt_RX10_272 wi_X10_goLook ws_X10_goLook rfl (by decide) (Nat.le_refl _) (Nat.le_refl _) rfl (Nat.le_of_ble_eq_true rfl) dX10_touch_56 ?_
        refine j_pop B dX10_touch_59 rfl ?_
        refine j_iinc (v := (x4 + 1)) (L' := [(4, .int (x4 + 1)), (0, .ref (G.1 + 63)), (2, .int x2), (3, .int x3)]) B dX10_touch_60 3 rfl rfl (by decide) rfl ?_
        refine j_goto (tgt := 35) B dX10_touch_63 (by decide) ?_
        refine j_locals [1, 2, 3, 0] rfl ?_
        exact ih (x2) (x3) ((x4 + 1)) (r6.2)  h
      · replace h := h_pos c h
        refine j_iload B dX10_touch_50 3 rfl ?_
        obtain ⟨e1, e2⟩ := Prod.mk.inj (Option.some.inj h)
        subst e1
        subst e2
        exact j_iret B E rfl dX10_touch_52 (Nat.le_refl _) (Nat.le_refl _) ⟨rfl, rfl, rfl, rfl⟩
def fX10_touch (x1 : Int32) (x2 : Int32) (x3 : Int32) (vi0 : VI) : Option (Int32 × VI) := (fX10_isSill x1 vi0).bind fun r1 => if r1 = true then (fX10_isPerson x2).bind fun r2 => if r2 = true then (fX10_in x3 0 9).bind fun r3 => if r3 = true then (fX10_layNow x1 vi0).bind fun r4 => fX10_touch_35  FU x2 x3 0 r4 else some ((-1), vi0) else some ((-1), vi0) else some ((-1), vi0)
theorem tX10_touch {G : GT} {sv : SV} {vi0 : VI} {vl0 : VL} {ns : Nat} {x1 : Int32} {x2 : Int32} {x3 : Int32} {r : Int32} {vi' : VI} (hW : WF sv ns) (h : fX10_touch x1 x2 x3 vi0 = some (r, vi')) : Call G mX10_touch 5 0 0 [.ref (G.1 + 63), .int x1, .int x2, .int x3] sv vi0 vl0 (QI r sv vi' vl0) := by
  refine j_mk (by decide +kernel) (Nat.le_of_ble_eq_true rfl) (fun Γ B E => ?_)
  show J G Γ 0 0 0 [(0, .ref (G.1 + 63)), (1, .int x1), (2, .int x2), (3, .int x3)] [] sv vi0 vl0
  unfold fX10_touch at h
  refine j_aload_n B dX10_touch_0 rfl 0 rfl ?_
  refine j_iload_n B dX10_touch_1 rfl 1 rfl ?_
  obtain ⟨r1, hr1, h⟩ := h_bind h
  refine j_cVI (rest := []) B (tX10_isSill hW hr1) cls10 (wf_65 hW) jt_RX10_152 wi_X10_isSill ws_X10_isSill rfl (by decide) (Nat.le_refl _) (Nat.le_refl _) rfl (Nat.le_of_ble_eq_true rfl) dX10_touch_2 ?_
  refine j_if_eq (tgt := 25) B dX10_touch_5 (by decide) (fun c => ?_) (fun c => ?_)
  · replace h := h_neg (b2i_0 c) h
    refine j_iconst B dX10_touch_25 (v := (-1)) (by decide) ?_
    obtain ⟨e1, e2⟩ := Prod.mk.inj (Option.some.inj h)
    subst e1
    subst e2
    exact j_iret B E rfl dX10_touch_26 (Nat.le_refl _) (Nat.le_refl _) ⟨rfl, rfl, rfl, rfl⟩
  · replace h := h_pos (b2i_1 c) h
    refine j_iload_n B dX10_touch_8 rfl 2 rfl ?_
    obtain ⟨r2, hr2, h⟩ := h_bind h
    refine j_cSI (rest := []) B (tX10_isPerson hr2) jt_RX10_155 wst_X10_isPerson rfl (by decide) (Nat.le_refl _) (Nat.le_refl _) rfl (Nat.le_of_ble_eq_true rfl) dX10_touch_9 ?_
    refine j_if_eq (tgt := 25) B dX10_touch_12 (by decide) (fun c => ?_) (fun c => ?_)
    · replace h := h_neg (b2i_0 c) h
      refine j_iconst B dX10_touch_25 (v := (-1)) (by decide) ?_
      obtain ⟨e1, e2⟩ := Prod.mk.inj (Option.some.inj h)
      subst e1
      subst e2
      exact j_iret B E rfl dX10_touch_26 (Nat.le_refl _) (Nat.le_refl _) ⟨rfl, rfl, rfl, rfl⟩
    · replace h := h_pos (b2i_1 c) h
      refine j_iload_n B dX10_touch_15 rfl 3 rfl ?_
      refine j_iconst B dX10_touch_16 (v := 0) (by decide) ?_
      refine j_bipush B dX10_touch_17 (v := 9) (by decide) ?_
      obtain ⟨r3, hr3, h⟩ := h_bind h
      refine j_cSI (rest := []) B (tX10_in hr3) jt_RX10_124 wst_X10_in rfl (by decide) (Nat.le_refl _) (Nat.le_refl _) rfl (Nat.le_of_ble_eq_true rfl) dX10_touch_19 ?_
      refine j_if_ne (tgt := 27) B dX10_touch_22 (by decide) (fun c => ?_) (fun c => ?_)
      · replace h := h_pos (b2i_1 c) h
        refine j_aload_n B dX10_touch_27 rfl 0 rfl ?_
        refine j_iload_n B dX10_touch_28 rfl 1 rfl ?_
        obtain ⟨r4, hr4, h⟩ := h_bind h
        refine j_cVV (rest := []) B (tX10_layNow hW hr4) cls10 (wf_65 hW) jt_RX10_169 wi_X10_layNow ws_X10_layNow rfl (by decide) (Nat.le_refl _) (Nat.le_refl _) rfl (Nat.le_of_ble_eq_true rfl) dX10_touch_29 ?_
        refine j_iconst B dX10_touch_32 (v := 0) (by decide) ?_
        refine j_istore (L' := [(4, .int 0), (0, .ref (G.1 + 63)), (1, .int x1), (2, .int x2), (3, .int x3)]) B dX10_touch_33 (by decide) rfl ?_
        refine j_locals [1, 3, 4, 0] rfl ?_
        exact tX10_touch_35 B E hW FU (x2) (x3) (0) (r4)  h
      · replace h := h_neg (b2i_0 c) h
        refine j_iconst B dX10_touch_25 (v := (-1)) (by decide) ?_
        obtain ⟨e1, e2⟩ := Prod.mk.inj (Option.some.inj h)
        subst e1
        subst e2
        exact j_iret B E rfl dX10_touch_26 (Nat.le_refl _) (Nat.le_refl _) ⟨rfl, rfl, rfl, rfl⟩
def fX10_readOf (x1 : Int32) (vi0 : VI) : Option (Int32 × VI) := (fX10_layNow x1 vi0).bind fun r1 => (fX10_readNow r1).bind fun r2 => some (r2, r1)
theorem tX10_readOf {G : GT} {sv : SV} {vi0 : VI} {vl0 : VL} {ns : Nat} {x1 : Int32} {r : Int32} {vi' : VI} (hW : WF sv ns) (h : fX10_readOf x1 vi0 = some (r, vi')) : Call G mX10_readOf 1 0 0 [.ref (G.1 + 63), .int x1] sv vi0 vl0 (QI r sv vi' vl0) := by
  refine j_mk (by decide +kernel) (Nat.le_of_ble_eq_true rfl) (fun Γ B E => ?_)
  show J G Γ 0 0 0 [(0, .ref (G.1 + 63)), (1, .int x1)] [] sv vi0 vl0
  unfold fX10_readOf at h
  refine j_aload_n B dX10_readOf_0 rfl 0 rfl ?_
  refine j_iload_n B dX10_readOf_1 rfl 1 rfl ?_
  obtain ⟨r1, hr1, h⟩ := h_bind h
  refine j_cVV (rest := []) B (tX10_layNow hW hr1) cls10 (wf_65 hW) jt_RX10_169 wi_X10_layNow ws_X10_layNow rfl (by decide) (Nat.le_refl _) (Nat.le_refl _) rfl (Nat.le_of_ble_eq_true rfl) dX10_readOf_2 ?_
  refine j_aload_n B dX10_readOf_5 rfl 0 rfl ?_
  obtain ⟨r2, hr2, h⟩ := h_bind h
  refine j_cVI (rest := []) B (tX10_readNow hW hr2) cls10 (wf_65 hW) jt_RX10_293 wi_X10_readNow ws_X10_readNow rfl (by decide) (Nat.le_refl _) (Nat.le_refl _) rfl (Nat.le_of_ble_eq_true rfl) dX10_readOf_6 ?_
  obtain ⟨e1, e2⟩ := Prod.mk.inj (Option.some.inj h)
  subst e1
  subst e2
  exact j_iret B E rfl dX10_readOf_9 (Nat.le_refl _) (Nat.le_refl _) ⟨rfl, rfl, rfl, rfl⟩
def fX10_tellsOf_40  (k13 : Int32 → Int32 → Int32 → VI → Option (Int32 × VI)) (x1 : Int32) (x2 : Int32) (x3 : Int32) (vi : VI) : Option (Int32 × VI) := k13 x1 x2 (x3 + 1) vi
theorem tX10_tellsOf_40 {G : GT} {sv : SV} {vl0 : VL} {ns : Nat} {Γ : CT} {r : Int32} {vi' : VI} {k13 : Int32 → Int32 → Int32 → VI → Option (Int32 × VI)} (B : Base G Γ mX10_tellsOf 2 0 0) (E : Ends G Γ 0 0 (QI r sv vi' vl0)) (hW : WF sv ns) (hk13 : ∀ (x1 : Int32) (x2 : Int32) (x3 : Int32) (vi : VI), k13 x1 x2 x3 vi = some (r, vi') → J G Γ 0 0 13 [(0, .ref (G.1 + 63)), (1, .int x1), (2, .int x2), (3, .int x3)] [] sv vi vl0) : ∀ (x1 : Int32) (x2 : Int32) (x3 : Int32) (vi : VI), fX10_tellsOf_40 k13 x1 x2 x3 vi = some (r, vi') → J G Γ 0 0 40 [(0, .ref (G.1 + 63)), (1, .int x1), (2, .int x2), (3, .int x3)] [] sv vi vl0 := by
  intro x1 x2 x3 vi  h
  unfold fX10_tellsOf_40 at h
  refine j_iinc (v := (x3 + 1)) (L' := [(3, .int (x3 + 1)), (0, .ref (G.1 + 63)), (1, .int x1), (2, .int x2)]) B dX10_tellsOf_40 3 rfl rfl (by decide) rfl ?_
  refine j_goto (tgt := 13) B dX10_tellsOf_43 (by decide) ?_
  refine j_locals [1, 2, 3, 0] rfl ?_
  exact hk13 (x1) (x2) ((x3 + 1)) (vi)  h
def fX10_tellsOf_13  : Nat → Int32 → Int32 → Int32 → VI → Option (Int32 × VI)
  | 0, _, _, _, _ => none
  | F + 1, x1, x2, x3, vi => if (vi 63 1) ≤ x3 then some (x2, vi) else (fX10_readOf x3 vi).bind fun r2 => if ((r2.1 >>> (x1 &&& 31)) &&& 1) = 1 then fX10_tellsOf_40 (fX10_tellsOf_13  F) x1 (x2 ||| ((1 : Int32) <<< (x3 &&& 31))) x3 r2.2 else fX10_tellsOf_40 (fX10_tellsOf_13  F) x1 x2 x3 r2.2
theorem tX10_tellsOf_13 {G : GT} {sv : SV} {vl0 : VL} {ns : Nat} {Γ : CT} {r : Int32} {vi' : VI} (B : Base G Γ mX10_tellsOf 2 0 0) (E : Ends G Γ 0 0 (QI r sv vi' vl0)) (hW : WF sv ns) : ∀ (F : Nat) (x1 : Int32) (x2 : Int32) (x3 : Int32) (vi : VI), fX10_tellsOf_13  F x1 x2 x3 vi = some (r, vi') → J G Γ 0 0 13 [(0, .ref (G.1 + 63)), (1, .int x1), (2, .int x2), (3, .int x3)] [] sv vi vl0 := by
  intro F
  induction F with
  | zero =>
    intro x1 x2 x3 vi  h
    cases (show (none : Option (Int32 × VI)) = some (r, vi') from h)
  | succ F ih =>
    intro x1 x2 x3 vi  h
    rw [fX10_tellsOf_13] at h
    refine j_iload_n B dX10_tellsOf_13 rfl 3 rfl ?_
    refine j_aload_n B dX10_tellsOf_14 rfl 0 rfl ?_
    refine gf_RX10_121 B rfl (wf_65 hW) dX10_tellsOf_15 ?_
    refine j_icmp_ge (tgt := 46) B dX10_tellsOf_18 (by decide) (fun c => ?_) (fun c => ?_)
    · replace h := h_pos c h
      refine j_iload_n B dX10_tellsOf_46 rfl 2 rfl ?_
      obtain ⟨e1, e2⟩ := Prod.mk.inj (Option.some.inj h)
      subst e1
      subst e2
      exact j_iret B E rfl dX10_tellsOf_47 (Nat.le_refl _) (Nat.le_refl _) ⟨rfl, rfl, rfl, rfl⟩
    · replace h := h_neg c h
      refine j_aload_n B dX10_tellsOf_21 rfl 0 rfl ?_
      refine j_iload_n B dX10_tellsOf_22 rfl 3 rfl ?_
      obtain ⟨r2, hr2, h⟩ := h_bind h
      refine j_cVI (rest := []) B (tX10_readOf hW hr2) cls10 (wf_65 hW) jt_RX10_308 wi_X10_readOf ws_X10_readOf rfl (by decide) (Nat.le_refl _) (Nat.le_refl _) rfl (Nat.le_of_ble_eq_true rfl) dX10_tellsOf_23 ?_
      refine j_iload_n B dX10_tellsOf_26 rfl 1 rfl ?_
      refine j_ishr B dX10_tellsOf_27 ?_
      refine j_iconst B dX10_tellsOf_28 (v := 1) (by decide) ?_
      refine j_iand B dX10_tellsOf_29 ?_
      refine j_iconst B dX10_tellsOf_30 (v := 1) (by decide) ?_
      refine j_icmp_ne (tgt := 40) B dX10_tellsOf_31 (by decide) (fun c => ?_) (fun c => ?_)
      · replace h := h_neg c h
        refine j_locals [0, 1, 2, 3] rfl ?_
        exact tX10_tellsOf_40 B E hW ih (x1) (x2) (x3) (r2.2)  h
      · replace h := h_pos c h
        refine j_iload_n B dX10_tellsOf_34 rfl 2 rfl ?_
        refine j_iconst B dX10_tellsOf_35 (v := 1) (by decide) ?_
        refine j_iload_n B dX10_tellsOf_36 rfl 3 rfl ?_
        refine j_ishl B dX10_tellsOf_37 ?_
        refine j_ior B dX10_tellsOf_38 ?_
        refine j_istore_n (L' := [(2, .int (x2 ||| ((1 : Int32) <<< (x3 &&& 31)))), (0, .ref (G.1 + 63)), (1, .int x1), (3, .int x3)]) B dX10_tellsOf_39 rfl (by decide) rfl ?_
        refine j_locals [1, 2, 0, 3] rfl ?_
        exact tX10_tellsOf_40 B E hW ih (x1) ((x2 ||| ((1 : Int32) <<< (x3 &&& 31)))) (x3) (r2.2)  h
def fX10_tellsOf (x1 : Int32) (vi0 : VI) : Option (Int32 × VI) := (fX10_isPerson x1).bind fun r1 => if r1 = true then fX10_tellsOf_13  FU x1 0 0 vi0 else some ((-1), vi0)
theorem tX10_tellsOf {G : GT} {sv : SV} {vi0 : VI} {vl0 : VL} {ns : Nat} {x1 : Int32} {r : Int32} {vi' : VI} (hW : WF sv ns) (h : fX10_tellsOf x1 vi0 = some (r, vi')) : Call G mX10_tellsOf 2 0 0 [.ref (G.1 + 63), .int x1] sv vi0 vl0 (QI r sv vi' vl0) := by
  refine j_mk (by decide +kernel) (Nat.le_of_ble_eq_true rfl) (fun Γ B E => ?_)
  show J G Γ 0 0 0 [(0, .ref (G.1 + 63)), (1, .int x1)] [] sv vi0 vl0
  unfold fX10_tellsOf at h
  refine j_iload_n B dX10_tellsOf_0 rfl 1 rfl ?_
  obtain ⟨r1, hr1, h⟩ := h_bind h
  refine j_cSI (rest := []) B (tX10_isPerson hr1) jt_RX10_155 wst_X10_isPerson rfl (by decide) (Nat.le_refl _) (Nat.le_refl _) rfl (Nat.le_of_ble_eq_true rfl) dX10_tellsOf_1 ?_
  refine j_if_ne (tgt := 9) B dX10_tellsOf_4 (by decide) (fun c => ?_) (fun c => ?_)
  · replace h := h_pos (b2i_1 c) h
    refine j_iconst B dX10_tellsOf_9 (v := 0) (by decide) ?_
    refine j_istore_n (L' := [(2, .int 0), (0, .ref (G.1 + 63)), (1, .int x1)]) B dX10_tellsOf_10 rfl (by decide) rfl ?_
    refine j_iconst B dX10_tellsOf_11 (v := 0) (by decide) ?_
    refine j_istore_n (L' := [(3, .int 0), (2, .int 0), (0, .ref (G.1 + 63)), (1, .int x1)]) B dX10_tellsOf_12 rfl (by decide) rfl ?_
    refine j_locals [2, 3, 1, 0] rfl ?_
    exact tX10_tellsOf_13 B E hW FU (x1) (0) (0) (vi0)  h
  · replace h := h_neg (b2i_0 c) h
    refine j_iconst B dX10_tellsOf_7 (v := (-1)) (by decide) ?_
    obtain ⟨e1, e2⟩ := Prod.mk.inj (Option.some.inj h)
    subst e1
    subst e2
    exact j_iret B E rfl dX10_tellsOf_8 (Nat.le_refl _) (Nat.le_refl _) ⟨rfl, rfl, rfl, rfl⟩
def fX10_readOfAll_29  (k4 : Int32 → Int32 → Int32 → VI → Option (Int32 × VI)) (x1 : Int32) (x2 : Int32) (x3 : Int32) (vi : VI) : Option (Int32 × VI) := k4 x1 x2 (x3 + 1) vi
theorem tX10_readOfAll_29 {G : GT} {sv : SV} {vl0 : VL} {ns : Nat} {Γ : CT} {r : Int32} {vi' : VI} {k4 : Int32 → Int32 → Int32 → VI → Option (Int32 × VI)} (B : Base G Γ mX10_readOfAll 2 0 0) (E : Ends G Γ 0 0 (QI r sv vi' vl0)) (hW : WF sv ns) (hk4 : ∀ (x1 : Int32) (x2 : Int32) (x3 : Int32) (vi : VI), k4 x1 x2 x3 vi = some (r, vi') → J G Γ 0 0 4 [(0, .ref (G.1 + 63)), (1, .int x1), (2, .int x2), (3, .int x3)] [] sv vi vl0) : ∀ (x1 : Int32) (x2 : Int32) (x3 : Int32) (vi : VI), fX10_readOfAll_29 k4 x1 x2 x3 vi = some (r, vi') → J G Γ 0 0 29 [(0, .ref (G.1 + 63)), (1, .int x1), (2, .int x2), (3, .int x3)] [] sv vi vl0 := by
  intro x1 x2 x3 vi  h
  unfold fX10_readOfAll_29 at h
  refine j_iinc (v := (x3 + 1)) (L' := [(3, .int (x3 + 1)), (0, .ref (G.1 + 63)), (1, .int x1), (2, .int x2)]) B dX10_readOfAll_29 3 rfl rfl (by decide) rfl ?_
  refine j_goto (tgt := 4) B dX10_readOfAll_32 (by decide) ?_
  refine j_locals [1, 2, 3, 0] rfl ?_
  exact hk4 (x1) (x2) ((x3 + 1)) (vi)  h
def fX10_readOfAll_4  : Nat → Int32 → Int32 → Int32 → VI → Option (Int32 × VI)
  | 0, _, _, _, _ => none
  | F + 1, x1, x2, x3, vi => if (vi 63 1) ≤ x3 then some (x2, vi) else if ((x1 >>> (x3 &&& 31)) &&& 1) = 1 then (fX10_readOf x3 vi).bind fun r1 => fX10_readOfAll_29 (fX10_readOfAll_4  F) x1 (x2 ||| r1.1) x3 r1.2 else fX10_readOfAll_29 (fX10_readOfAll_4  F) x1 x2 x3 vi
theorem tX10_readOfAll_4 {G : GT} {sv : SV} {vl0 : VL} {ns : Nat} {Γ : CT} {r : Int32} {vi' : VI} (B : Base G Γ mX10_readOfAll 2 0 0) (E : Ends G Γ 0 0 (QI r sv vi' vl0)) (hW : WF sv ns) : ∀ (F : Nat) (x1 : Int32) (x2 : Int32) (x3 : Int32) (vi : VI), fX10_readOfAll_4  F x1 x2 x3 vi = some (r, vi') → J G Γ 0 0 4 [(0, .ref (G.1 + 63)), (1, .int x1), (2, .int x2), (3, .int x3)] [] sv vi vl0 := by
  intro F
  induction F with
  | zero =>
    intro x1 x2 x3 vi  h
    cases (show (none : Option (Int32 × VI)) = some (r, vi') from h)
  | succ F ih =>
    intro x1 x2 x3 vi  h
    rw [fX10_readOfAll_4] at h
    refine j_iload_n B dX10_readOfAll_4 rfl 3 rfl ?_
    refine j_aload_n B dX10_readOfAll_5 rfl 0 rfl ?_
    refine gf_RX10_121 B rfl (wf_65 hW) dX10_readOfAll_6 ?_
    refine j_icmp_ge (tgt := 35) B dX10_readOfAll_9 (by decide) (fun c => ?_) (fun c => ?_)
    · replace h := h_pos c h
      refine j_iload_n B dX10_readOfAll_35 rfl 2 rfl ?_
      obtain ⟨e1, e2⟩ := Prod.mk.inj (Option.some.inj h)
      subst e1
      subst e2
      exact j_iret B E rfl dX10_readOfAll_36 (Nat.le_refl _) (Nat.le_refl _) ⟨rfl, rfl, rfl, rfl⟩
    · replace h := h_neg c h
      refine j_iload_n B dX10_readOfAll_12 rfl 1 rfl ?_
      refine j_iload_n B dX10_readOfAll_13 rfl 3 rfl ?_
      refine j_ishr B dX10_readOfAll_14 ?_
      refine j_iconst B dX10_readOfAll_15 (v := 1) (by decide) ?_
      refine j_iand B dX10_readOfAll_16 ?_
      refine j_iconst B dX10_readOfAll_17 (v := 1) (by decide) ?_
      refine j_icmp_ne (tgt := 29) B dX10_readOfAll_18 (by decide) (fun c => ?_) (fun c => ?_)
      · replace h := h_neg c h
        refine j_locals [0, 1, 2, 3] rfl ?_
        exact tX10_readOfAll_29 B E hW ih (x1) (x2) (x3) (vi)  h
      · replace h := h_pos c h
        refine j_iload_n B dX10_readOfAll_21 rfl 2 rfl ?_
        refine j_aload_n B dX10_readOfAll_22 rfl 0 rfl ?_
        refine j_iload_n B dX10_readOfAll_23 rfl 3 rfl ?_
        obtain ⟨r1, hr1, h⟩ := h_bind h
        refine j_cVI (rest := [.int x2]) B (tX10_readOf hW hr1) cls10 (wf_65 hW) jt_RX10_308 wi_X10_readOf ws_X10_readOf rfl (by decide) (Nat.le_refl _) (Nat.le_refl _) rfl (Nat.le_of_ble_eq_true rfl) dX10_readOfAll_24 ?_
        refine j_ior B dX10_readOfAll_27 ?_
        refine j_istore_n (L' := [(2, .int (x2 ||| r1.1)), (0, .ref (G.1 + 63)), (1, .int x1), (3, .int x3)]) B dX10_readOfAll_28 rfl (by decide) rfl ?_
        refine j_locals [1, 2, 0, 3] rfl ?_
        exact tX10_readOfAll_29 B E hW ih (x1) ((x2 ||| r1.1)) (x3) (r1.2)  h
def fX10_readOfAll (x1 : Int32) (vi0 : VI) : Option (Int32 × VI) := fX10_readOfAll_4  FU x1 0 0 vi0
theorem tX10_readOfAll {G : GT} {sv : SV} {vi0 : VI} {vl0 : VL} {ns : Nat} {x1 : Int32} {r : Int32} {vi' : VI} (hW : WF sv ns) (h : fX10_readOfAll x1 vi0 = some (r, vi')) : Call G mX10_readOfAll 2 0 0 [.ref (G.1 + 63), .int x1] sv vi0 vl0 (QI r sv vi' vl0) := by
  refine j_mk (by decide +kernel) (Nat.le_of_ble_eq_true rfl) (fun Γ B E => ?_)
  show J G Γ 0 0 0 [(0, .ref (G.1 + 63)), (1, .int x1)] [] sv vi0 vl0
  unfold fX10_readOfAll at h
  refine j_iconst B dX10_readOfAll_0 (v := 0) (by decide) ?_
  refine j_istore_n (L' := [(2, .int 0), (0, .ref (G.1 + 63)), (1, .int x1)]) B dX10_readOfAll_1 rfl (by decide) rfl ?_
  refine j_iconst B dX10_readOfAll_2 (v := 0) (by decide) ?_
  refine j_istore_n (L' := [(3, .int 0), (2, .int 0), (0, .ref (G.1 + 63)), (1, .int x1)]) B dX10_readOfAll_3 rfl (by decide) rfl ?_
  refine j_locals [2, 3, 1, 0] rfl ?_
  exact tX10_readOfAll_4 B E hW FU (x1) (0) (0) (vi0)  h
def fX10_hides_28  (k4 : Int32 → Int32 → Int32 → VI → Option (Int32 × VI)) (x1 : Int32) (x2 : Int32) (x3 : Int32) (vi : VI) : Option (Int32 × VI) := k4 x1 x2 (x3 + 1) vi
theorem tX10_hides_28 {G : GT} {sv : SV} {vl0 : VL} {ns : Nat} {Γ : CT} {r : Int32} {vi' : VI} {k4 : Int32 → Int32 → Int32 → VI → Option (Int32 × VI)} (B : Base G Γ mX10_hides 2 0 0) (E : Ends G Γ 0 0 (QI r sv vi' vl0)) (hW : WF sv ns) (hk4 : ∀ (x1 : Int32) (x2 : Int32) (x3 : Int32) (vi : VI), k4 x1 x2 x3 vi = some (r, vi') → J G Γ 0 0 4 [(0, .ref (G.1 + 63)), (1, .int x1), (2, .int x2), (3, .int x3)] [] sv vi vl0) : ∀ (x1 : Int32) (x2 : Int32) (x3 : Int32) (vi : VI), fX10_hides_28 k4 x1 x2 x3 vi = some (r, vi') → J G Γ 0 0 28 [(0, .ref (G.1 + 63)), (1, .int x1), (2, .int x2), (3, .int x3)] [] sv vi vl0 := by
  intro x1 x2 x3 vi  h
  unfold fX10_hides_28 at h
  refine j_iinc (v := (x3 + 1)) (L' := [(3, .int (x3 + 1)), (0, .ref (G.1 + 63)), (1, .int x1), (2, .int x2)]) B dX10_hides_28 3 rfl rfl (by decide) rfl ?_
  refine j_goto (tgt := 4) B dX10_hides_31 (by decide) ?_
  refine j_locals [1, 2, 3, 0] rfl ?_
  exact hk4 (x1) (x2) ((x3 + 1)) (vi)  h
def fX10_hides_4  : Nat → Int32 → Int32 → Int32 → VI → Option (Int32 × VI)
  | 0, _, _, _, _ => none
  | F + 1, x1, x2, x3, vi => if (vi 63 1) ≤ x3 then some (x2, vi) else (fX10_readOf x3 vi).bind fun r1 => if (r1.1 &&& x1) = 0 then fX10_hides_28 (fX10_hides_4  F) x1 x2 x3 r1.2 else fX10_hides_28 (fX10_hides_4  F) x1 (x2 ||| ((1 : Int32) <<< (x3 &&& 31))) x3 r1.2
theorem tX10_hides_4 {G : GT} {sv : SV} {vl0 : VL} {ns : Nat} {Γ : CT} {r : Int32} {vi' : VI} (B : Base G Γ mX10_hides 2 0 0) (E : Ends G Γ 0 0 (QI r sv vi' vl0)) (hW : WF sv ns) : ∀ (F : Nat) (x1 : Int32) (x2 : Int32) (x3 : Int32) (vi : VI), fX10_hides_4  F x1 x2 x3 vi = some (r, vi') → J G Γ 0 0 4 [(0, .ref (G.1 + 63)), (1, .int x1), (2, .int x2), (3, .int x3)] [] sv vi vl0 := by
  intro F
  induction F with
  | zero =>
    intro x1 x2 x3 vi  h
    cases (show (none : Option (Int32 × VI)) = some (r, vi') from h)
  | succ F ih =>
    intro x1 x2 x3 vi  h
    rw [fX10_hides_4] at h
    refine j_iload_n B dX10_hides_4 rfl 3 rfl ?_
    refine j_aload_n B dX10_hides_5 rfl 0 rfl ?_
    refine gf_RX10_121 B rfl (wf_65 hW) dX10_hides_6 ?_
    refine j_icmp_ge (tgt := 34) B dX10_hides_9 (by decide) (fun c => ?_) (fun c => ?_)
    · replace h := h_pos c h
      refine j_iload_n B dX10_hides_34 rfl 2 rfl ?_
      obtain ⟨e1, e2⟩ := Prod.mk.inj (Option.some.inj h)
      subst e1
      subst e2
      exact j_iret B E rfl dX10_hides_35 (Nat.le_refl _) (Nat.le_refl _) ⟨rfl, rfl, rfl, rfl⟩
    · replace h := h_neg c h
      refine j_aload_n B dX10_hides_12 rfl 0 rfl ?_
      refine j_iload_n B dX10_hides_13 rfl 3 rfl ?_
      obtain ⟨r1, hr1, h⟩ := h_bind h
      refine j_cVI (rest := []) B (tX10_readOf hW hr1) cls10 (wf_65 hW) jt_RX10_308 wi_X10_readOf ws_X10_readOf rfl (by decide) (Nat.le_refl _) (Nat.le_refl _) rfl (Nat.le_of_ble_eq_true rfl) dX10_hides_14 ?_
      refine j_iload_n B dX10_hides_17 rfl 1 rfl ?_
      refine j_iand B dX10_hides_18 ?_
      refine j_if_eq (tgt := 28) B dX10_hides_19 (by decide) (fun c => ?_) (fun c => ?_)
      · replace h := h_pos c h
        refine j_locals [0, 1, 2, 3] rfl ?_
        exact tX10_hides_28 B E hW ih (x1) (x2) (x3) (r1.2)  h
      · replace h := h_neg c h
        refine j_iload_n B dX10_hides_22 rfl 2 rfl ?_
        refine j_iconst B dX10_hides_23 (v := 1) (by decide) ?_
        refine j_iload_n B dX10_hides_24 rfl 3 rfl ?_
        refine j_ishl B dX10_hides_25 ?_
        refine j_ior B dX10_hides_26 ?_
        refine j_istore_n (L' := [(2, .int (x2 ||| ((1 : Int32) <<< (x3 &&& 31)))), (0, .ref (G.1 + 63)), (1, .int x1), (3, .int x3)]) B dX10_hides_27 rfl (by decide) rfl ?_
        refine j_locals [1, 2, 0, 3] rfl ?_
        exact tX10_hides_28 B E hW ih (x1) ((x2 ||| ((1 : Int32) <<< (x3 &&& 31)))) (x3) (r1.2)  h
def fX10_hides (x1 : Int32) (vi0 : VI) : Option (Int32 × VI) := fX10_hides_4  FU x1 0 0 vi0
theorem tX10_hides {G : GT} {sv : SV} {vi0 : VI} {vl0 : VL} {ns : Nat} {x1 : Int32} {r : Int32} {vi' : VI} (hW : WF sv ns) (h : fX10_hides x1 vi0 = some (r, vi')) : Call G mX10_hides 2 0 0 [.ref (G.1 + 63), .int x1] sv vi0 vl0 (QI r sv vi' vl0) := by
  refine j_mk (by decide +kernel) (Nat.le_of_ble_eq_true rfl) (fun Γ B E => ?_)
  show J G Γ 0 0 0 [(0, .ref (G.1 + 63)), (1, .int x1)] [] sv vi0 vl0
  unfold fX10_hides at h
  refine j_iconst B dX10_hides_0 (v := 0) (by decide) ?_
  refine j_istore_n (L' := [(2, .int 0), (0, .ref (G.1 + 63)), (1, .int x1)]) B dX10_hides_1 rfl (by decide) rfl ?_
  refine j_iconst B dX10_hides_2 (v := 0) (by decide) ?_
  refine j_istore_n (L' := [(3, .int 0), (2, .int 0), (0, .ref (G.1 + 63)), (1, .int x1)]) B dX10_hides_3 rfl (by decide) rfl ?_
  refine j_locals [2, 3, 1, 0] rfl ?_
  exact tX10_hides_4 B E hW FU (x1) (0) (0) (vi0)  h
def fX10_fewest_96  (x3 : Int32) (vi : VI) : Option (Int32 × VI) := some (x3, vi)
theorem tX10_fewest_96 {G : GT} {sv : SV} {vl0 : VL} {ns : Nat} {Γ : CT} {r : Int32} {vi' : VI} (B : Base G Γ mX10_fewest 3 0 0) (E : Ends G Γ 0 0 (QI r sv vi' vl0)) (hW : WF sv ns) : ∀ (x3 : Int32) (vi : VI), fX10_fewest_96  x3 vi = some (r, vi') → J G Γ 0 0 96 [(3, .int x3)] [] sv vi vl0 := by
  intro x3 vi  h
  unfold fX10_fewest_96 at h
  refine j_iload_n B dX10_fewest_96 rfl 0 rfl ?_
  refine j_goto (tgt := 104) B dX10_fewest_97 (by decide) ?_
  obtain ⟨e1, e2⟩ := Prod.mk.inj (Option.some.inj h)
  subst e1
  subst e2
  exact j_iret B E rfl dX10_fewest_104 (Nat.le_refl _) (Nat.le_refl _) ⟨rfl, rfl, rfl, rfl⟩
def fX10_fewest_81  (k38 : Int32 → Int32 → Int32 → Int32 → VI → Option (Int32 × VI)) (x1 : Int32) (x2 : Int32) (x3 : Int32) (x4 : Int32) (vi : VI) : Option (Int32 × VI) := k38 x1 x2 x3 (x4 + 1) vi
theorem tX10_fewest_81 {G : GT} {sv : SV} {vl0 : VL} {ns : Nat} {Γ : CT} {r : Int32} {vi' : VI} {k38 : Int32 → Int32 → Int32 → Int32 → VI → Option (Int32 × VI)} (B : Base G Γ mX10_fewest 3 0 0) (E : Ends G Γ 0 0 (QI r sv vi' vl0)) (hW : WF sv ns) (hk38 : ∀ (x1 : Int32) (x2 : Int32) (x3 : Int32) (x4 : Int32) (vi : VI), k38 x1 x2 x3 x4 vi = some (r, vi') → J G Γ 0 0 38 [(0, .ref (G.1 + 63)), (1, .int x1), (2, .int x2), (3, .int x3), (4, .int x4)] [] sv vi vl0) : ∀ (x1 : Int32) (x2 : Int32) (x3 : Int32) (x4 : Int32) (vi : VI), fX10_fewest_81 k38 x1 x2 x3 x4 vi = some (r, vi') → J G Γ 0 0 81 [(0, .ref (G.1 + 63)), (1, .int x1), (2, .int x2), (3, .int x3), (4, .int x4)] [] sv vi vl0 := by
  intro x1 x2 x3 x4 vi  h
  unfold fX10_fewest_81 at h
  refine j_iinc (v := (x4 + 1)) (L' := [(4, .int (x4 + 1)), (0, .ref (G.1 + 63)), (1, .int x1), (2, .int x2), (3, .int x3)]) B dX10_fewest_81 4 rfl rfl (by decide) rfl ?_
  refine j_goto (tgt := 38) B dX10_fewest_84 (by decide) ?_
  refine j_locals [1, 2, 3, 4, 0] rfl ?_
  exact hk38 (x1) (x2) (x3) ((x4 + 1)) (vi)  h
def fX10_fewest_78  (k38 : Int32 → Int32 → Int32 → Int32 → VI → Option (Int32 × VI)) (x1 : Int32) (x2 : Int32) (x4 : Int32) (vi : VI) : Option (Int32 × VI) := fX10_fewest_81 k38 x1 x2 x4 x4 vi
theorem tX10_fewest_78 {G : GT} {sv : SV} {vl0 : VL} {ns : Nat} {Γ : CT} {r : Int32} {vi' : VI} {k38 : Int32 → Int32 → Int32 → Int32 → VI → Option (Int32 × VI)} (B : Base G Γ mX10_fewest 3 0 0) (E : Ends G Γ 0 0 (QI r sv vi' vl0)) (hW : WF sv ns) (hk38 : ∀ (x1 : Int32) (x2 : Int32) (x3 : Int32) (x4 : Int32) (vi : VI), k38 x1 x2 x3 x4 vi = some (r, vi') → J G Γ 0 0 38 [(0, .ref (G.1 + 63)), (1, .int x1), (2, .int x2), (3, .int x3), (4, .int x4)] [] sv vi vl0) : ∀ (x1 : Int32) (x2 : Int32) (x4 : Int32) (vi : VI), fX10_fewest_78 k38 x1 x2 x4 vi = some (r, vi') → J G Γ 0 0 78 [(0, .ref (G.1 + 63)), (1, .int x1), (2, .int x2), (4, .int x4)] [] sv vi vl0 := by
  intro x1 x2 x4 vi  h
  unfold fX10_fewest_78 at h
  refine j_iload B dX10_fewest_78 3 rfl ?_
  refine j_istore_n (L' := [(3, .int x4), (0, .ref (G.1 + 63)), (1, .int x1), (2, .int x2), (4, .int x4)]) B dX10_fewest_80 rfl (by decide) rfl ?_
  refine j_locals [1, 2, 3, 0, 4] rfl ?_
  exact tX10_fewest_81 B E hW hk38 (x1) (x2) (x4) (x4) (vi)  h
def fX10_fewest_38  : Nat → Int32 → Int32 → Int32 → Int32 → VI → Option (Int32 × VI)
  | 0, _, _, _, _, _ => none
  | F + 1, x1, x2, x3, x4, vi => if ((1 : Int32) <<< ((vi 63 1) &&& 31)) ≤ x4 then if x3 < 0 then fX10_fewest_96  x3 vi else if x2 = 1 then fX10_fewest_96  x3 vi else (fX10_bitsOf x3).bind fun r3 => some (r3, vi) else (fX10_readOfAll x4 vi).bind fun r4 => if (x1 &&& (r4.1 ^^^ (-1))) = 0 then if x3 < 0 then fX10_fewest_78 (fX10_fewest_38  F) x1 x2 x4 r4.2 else (fX10_bitsOf x4).bind fun r5 => (fX10_bitsOf x3).bind fun r6 => if r6 ≤ r5 then fX10_fewest_81 (fX10_fewest_38  F) x1 x2 x3 x4 r4.2 else fX10_fewest_78 (fX10_fewest_38  F) x1 x2 x4 r4.2 else fX10_fewest_81 (fX10_fewest_38  F) x1 x2 x3 x4 r4.2
theorem tX10_fewest_38 {G : GT} {sv : SV} {vl0 : VL} {ns : Nat} {Γ : CT} {r : Int32} {vi' : VI} (B : Base G Γ mX10_fewest 3 0 0) (E : Ends G Γ 0 0 (QI r sv vi' vl0)) (hW : WF sv ns) : ∀ (F : Nat) (x1 : Int32) (x2 : Int32) (x3 : Int32) (x4 : Int32) (vi : VI), fX10_fewest_38  F x1 x2 x3 x4 vi = some (r, vi') → J G Γ 0 0 38 [(0, .ref (G.1 + 63)), (1, .int x1), (2, .int x2), (3, .int x3), (4, .int x4)] [] sv vi vl0 := by
  intro F
  induction F with
  | zero =>
    intro x1 x2 x3 x4 vi  h
    cases (show (none : Option (Int32 × VI)) = some (r, vi') from h)
  | succ F ih =>
    intro x1 x2 x3 x4 vi  h
    rw [fX10_fewest_38] at h
    refine j_iload B dX10_fewest_38 4 rfl ?_
    refine j_iconst B dX10_fewest_40 (v := 1) (by decide) ?_
    refine j_aload_n B dX10_fewest_41 rfl 0 rfl ?_
    refine gf_RX10_121 B rfl (wf_65 hW) dX10_fewest_42 ?_
    refine j_ishl B dX10_fewest_45 ?_
    refine j_icmp_ge (tgt := 87) B dX10_fewest_46 (by decide) (fun c => ?_) (fun c => ?_)
    · replace h := h_pos c h
      refine j_iload_n B dX10_fewest_87 rfl 3 rfl ?_
      refine j_if_lt (tgt := 96) B dX10_fewest_88 (by decide) (fun c => ?_) (fun c => ?_)
      · replace h := h_pos c h
        refine j_locals [3] rfl ?_
        exact tX10_fewest_96 B E hW (x3) (vi)  h
      · replace h := h_neg c h
        refine j_iload_n B dX10_fewest_91 rfl 2 rfl ?_
        refine j_iconst B dX10_fewest_92 (v := 1) (by decide) ?_
        refine j_icmp_ne (tgt := 100) B dX10_fewest_93 (by decide) (fun c => ?_) (fun c => ?_)
        · replace h := h_neg c h
          refine j_iload_n B dX10_fewest_100 rfl 3 rfl ?_
          obtain ⟨r3, hr3, h⟩ := h_bind h
          refine j_cSI (rest := []) B (tX10_bitsOf hr3) jt_RX10_299 wst_X10_bitsOf rfl (by decide) (Nat.le_refl _) (Nat.le_refl _) rfl (Nat.le_of_ble_eq_true rfl) dX10_fewest_101 ?_
          obtain ⟨e1, e2⟩ := Prod.mk.inj (Option.some.inj h)
          subst e1
          subst e2
          exact j_iret B E rfl dX10_fewest_104 (Nat.le_refl _) (Nat.le_refl _) ⟨rfl, rfl, rfl, rfl⟩
        · replace h := h_pos c h
          refine j_locals [3] rfl ?_
          exact tX10_fewest_96 B E hW (x3) (vi)  h
    · replace h := h_neg c h
      refine j_iload_n B dX10_fewest_49 rfl 1 rfl ?_
      refine j_aload_n B dX10_fewest_50 rfl 0 rfl ?_
      refine j_iload B dX10_fewest_51 4 rfl ?_
      obtain ⟨r4, hr4, h⟩ := h_bind h
      refine j_cVI (rest := [.int x1]) B (tX10_readOfAll hW hr4) cls10 (wf_65 hW) jt_RX10_314 wi_X10_readOfAll ws_X10_readOfAll rfl (by decide) (Nat.le_refl _) (Nat.le_refl _) rfl (Nat.le_of_ble_eq_true rfl) dX10_fewest_53 ?_
      refine j_iconst B dX10_fewest_56 (v := (-1)) (by decide) ?_
      refine j_ixor B dX10_fewest_57 ?_
      refine j_iand B dX10_fewest_58 ?_
      refine j_if_ne (tgt := 81) B dX10_fewest_59 (by decide) (fun c => ?_) (fun c => ?_)
      · replace h := h_neg c h
        refine j_locals [0, 1, 2, 3, 4] rfl ?_
        exact tX10_fewest_81 B E hW ih (x1) (x2) (x3) (x4) (r4.2)  h
      · replace h := h_pos c h
        refine j_iload_n B dX10_fewest_62 rfl 3 rfl ?_
        refine j_if_lt (tgt := 78) B dX10_fewest_63 (by decide) (fun c => ?_) (fun c => ?_)
        · replace h := h_pos c h
          refine j_locals [0, 1, 2, 4] rfl ?_
          exact tX10_fewest_78 B E hW ih (x1) (x2) (x4) (r4.2)  h
        · replace h := h_neg c h
          refine j_iload B dX10_fewest_66 4 rfl ?_
          obtain ⟨r5, hr5, h⟩ := h_bind h
          refine j_cSI (rest := []) B (tX10_bitsOf hr5) jt_RX10_299 wst_X10_bitsOf rfl (by decide) (Nat.le_refl _) (Nat.le_refl _) rfl (Nat.le_of_ble_eq_true rfl) dX10_fewest_68 ?_
          refine j_iload_n B dX10_fewest_71 rfl 3 rfl ?_
          obtain ⟨r6, hr6, h⟩ := h_bind h
          refine j_cSI (rest := [.int r5]) B (tX10_bitsOf hr6) jt_RX10_299 wst_X10_bitsOf rfl (by decide) (Nat.le_refl _) (Nat.le_refl _) rfl (Nat.le_of_ble_eq_true rfl) dX10_fewest_72 ?_
          refine j_icmp_ge (tgt := 81) B dX10_fewest_75 (by decide) (fun c => ?_) (fun c => ?_)
          · replace h := h_pos c h
            refine j_locals [0, 1, 2, 3, 4] rfl ?_
            exact tX10_fewest_81 B E hW ih (x1) (x2) (x3) (x4) (r4.2)  h
          · replace h := h_neg c h
            refine j_locals [0, 1, 2, 4] rfl ?_
            exact tX10_fewest_78 B E hW ih (x1) (x2) (x4) (r4.2)  h
def fX10_fewest (x1 : Int32) (x2 : Int32) (vi0 : VI) : Option (Int32 × VI) := (fX10_in x1 0 63).bind fun r1 => if r1 = true then (fX10_in x2 0 2).bind fun r2 => if r2 = true then if x2 = 2 then (fX10_hides x1 vi0).bind fun r7 => some (r7.1, r7.2) else fX10_fewest_38  FU x1 x2 (-2) 0 vi0 else some ((-1), vi0) else some ((-1), vi0)
theorem tX10_fewest {G : GT} {sv : SV} {vi0 : VI} {vl0 : VL} {ns : Nat} {x1 : Int32} {x2 : Int32} {r : Int32} {vi' : VI} (hW : WF sv ns) (h : fX10_fewest x1 x2 vi0 = some (r, vi')) : Call G mX10_fewest 3 0 0 [.ref (G.1 + 63), .int x1, .int x2] sv vi0 vl0 (QI r sv vi' vl0) := by
  refine j_mk (by decide +kernel) (Nat.le_of_ble_eq_true rfl) (fun Γ B E => ?_)
  show J G Γ 0 0 0 [(0, .ref (G.1 + 63)), (1, .int x1), (2, .int x2)] [] sv vi0 vl0
  unfold fX10_fewest at h
  refine j_iload_n B dX10_fewest_0 rfl 1 rfl ?_
  refine j_iconst B dX10_fewest_1 (v := 0) (by decide) ?_
  refine j_bipush B dX10_fewest_2 (v := 63) (by decide) ?_
  obtain ⟨r1, hr1, h⟩ := h_bind h
  refine j_cSI (rest := []) B (tX10_in hr1) jt_RX10_124 wst_X10_in rfl (by decide) (Nat.le_refl _) (Nat.le_refl _) rfl (Nat.le_of_ble_eq_true rfl) dX10_fewest_4 ?_
  refine j_if_eq (tgt := 19) B dX10_fewest_7 (by decide) (fun c => ?_) (fun c => ?_)
  · replace h := h_neg (b2i_0 c) h
    refine j_iconst B dX10_fewest_19 (v := (-1)) (by decide) ?_
    obtain ⟨e1, e2⟩ := Prod.mk.inj (Option.some.inj h)
    subst e1
    subst e2
    exact j_iret B E rfl dX10_fewest_20 (Nat.le_refl _) (Nat.le_refl _) ⟨rfl, rfl, rfl, rfl⟩
  · replace h := h_pos (b2i_1 c) h
    refine j_iload_n B dX10_fewest_10 rfl 2 rfl ?_
    refine j_iconst B dX10_fewest_11 (v := 0) (by decide) ?_
    refine j_iconst B dX10_fewest_12 (v := 2) (by decide) ?_
    obtain ⟨r2, hr2, h⟩ := h_bind h
    refine j_cSI (rest := []) B (tX10_in hr2) jt_RX10_124 wst_X10_in rfl (by decide) (Nat.le_refl _) (Nat.le_refl _) rfl (Nat.le_of_ble_eq_true rfl) dX10_fewest_13 ?_
    refine j_if_ne (tgt := 21) B dX10_fewest_16 (by decide) (fun c => ?_) (fun c => ?_)
    · replace h := h_pos (b2i_1 c) h
      refine j_iload_n B dX10_fewest_21 rfl 2 rfl ?_
      refine j_iconst B dX10_fewest_22 (v := 2) (by decide) ?_
      refine j_icmp_ne (tgt := 32) B dX10_fewest_23 (by decide) (fun c => ?_) (fun c => ?_)
      · replace h := h_neg c h
        refine j_bipush B dX10_fewest_32 (v := (-2)) (by decide) ?_
        refine j_istore_n (L' := [(3, .int (-2)), (0, .ref (G.1 + 63)), (1, .int x1), (2, .int x2)]) B dX10_fewest_34 rfl (by decide) rfl ?_
        refine j_iconst B dX10_fewest_35 (v := 0) (by decide) ?_
        refine j_istore (L' := [(4, .int 0), (3, .int (-2)), (0, .ref (G.1 + 63)), (1, .int x1), (2, .int x2)]) B dX10_fewest_36 (by decide) rfl ?_
        refine j_locals [2, 3, 4, 1, 0] rfl ?_
        exact tX10_fewest_38 B E hW FU (x1) (x2) ((-2)) (0) (vi0)  h
      · replace h := h_pos c h
        refine j_aload_n B dX10_fewest_26 rfl 0 rfl ?_
        refine j_iload_n B dX10_fewest_27 rfl 1 rfl ?_
        obtain ⟨r7, hr7, h⟩ := h_bind h
        refine j_cVI (rest := []) B (tX10_hides hW hr7) cls10 (wf_65 hW) jt_RX10_311 wi_X10_hides ws_X10_hides rfl (by decide) (Nat.le_refl _) (Nat.le_refl _) rfl (Nat.le_of_ble_eq_true rfl) dX10_fewest_28 ?_
        obtain ⟨e1, e2⟩ := Prod.mk.inj (Option.some.inj h)
        subst e1
        subst e2
        exact j_iret B E rfl dX10_fewest_31 (Nat.le_refl _) (Nat.le_refl _) ⟨rfl, rfl, rfl, rfl⟩
    · replace h := h_neg (b2i_0 c) h
      refine j_iconst B dX10_fewest_19 (v := (-1)) (by decide) ?_
      obtain ⟨e1, e2⟩ := Prod.mk.inj (Option.some.inj h)
      subst e1
      subst e2
      exact j_iret B E rfl dX10_fewest_20 (Nat.le_refl _) (Nat.le_refl _) ⟨rfl, rfl, rfl, rfl⟩
def fX10_corner_38  (k5 : Int32 → Int32 → VI → Option (Int32 × VI)) (x1 : Int32) (x2 : Int32) (vi : VI) : Option (Int32 × VI) := k5 x1 (x2 + 1) vi
theorem tX10_corner_38 {G : GT} {sv : SV} {vl0 : VL} {ns : Nat} {Γ : CT} {r : Int32} {vi' : VI} {k5 : Int32 → Int32 → VI → Option (Int32 × VI)} (B : Base G Γ mX10_corner 2 0 0) (E : Ends G Γ 0 0 (QI r sv vi' vl0)) (hW : WF sv ns) (hk5 : ∀ (x1 : Int32) (x2 : Int32) (vi : VI), k5 x1 x2 vi = some (r, vi') → J G Γ 0 0 5 [(0, .ref (G.1 + 63)), (1, .int x1), (2, .int x2)] [] sv vi vl0) : ∀ (x1 : Int32) (x2 : Int32) (vi : VI), fX10_corner_38 k5 x1 x2 vi = some (r, vi') → J G Γ 0 0 38 [(0, .ref (G.1 + 63)), (1, .int x1), (2, .int x2)] [] sv vi vl0 := by
  intro x1 x2 vi  h
  unfold fX10_corner_38 at h
  refine j_iinc (v := (x2 + 1)) (L' := [(2, .int (x2 + 1)), (0, .ref (G.1 + 63)), (1, .int x1)]) B dX10_corner_38 2 rfl rfl (by decide) rfl ?_
  refine j_goto (tgt := 5) B dX10_corner_41 (by decide) ?_
  refine j_locals [1, 2, 0] rfl ?_
  exact hk5 (x1) ((x2 + 1)) (vi)  h
def fX10_corner_36  (k5 : Int32 → Int32 → VI → Option (Int32 × VI)) (x2 : Int32) (vi : VI) : Option (Int32 × VI) := fX10_corner_38 k5 x2 x2 vi
theorem tX10_corner_36 {G : GT} {sv : SV} {vl0 : VL} {ns : Nat} {Γ : CT} {r : Int32} {vi' : VI} {k5 : Int32 → Int32 → VI → Option (Int32 × VI)} (B : Base G Γ mX10_corner 2 0 0) (E : Ends G Γ 0 0 (QI r sv vi' vl0)) (hW : WF sv ns) (hk5 : ∀ (x1 : Int32) (x2 : Int32) (vi : VI), k5 x1 x2 vi = some (r, vi') → J G Γ 0 0 5 [(0, .ref (G.1 + 63)), (1, .int x1), (2, .int x2)] [] sv vi vl0) : ∀ (x2 : Int32) (vi : VI), fX10_corner_36 k5 x2 vi = some (r, vi') → J G Γ 0 0 36 [(0, .ref (G.1 + 63)), (2, .int x2)] [] sv vi vl0 := by
  intro x2 vi  h
  unfold fX10_corner_36 at h
  refine j_iload_n B dX10_corner_36 rfl 1 rfl ?_
  refine j_istore_n (L' := [(1, .int x2), (0, .ref (G.1 + 63)), (2, .int x2)]) B dX10_corner_37 rfl (by decide) rfl ?_
  refine j_locals [1, 0, 2] rfl ?_
  exact tX10_corner_38 B E hW hk5 (x2) (x2) (vi)  h
def fX10_corner_5  : Nat → Int32 → Int32 → VI → Option (Int32 × VI)
  | 0, _, _, _ => none
  | F + 1, x1, x2, vi => if (vi 63 1) ≤ x2 then some (x1, vi) else if x1 < 0 then fX10_corner_36 (fX10_corner_5  F) x2 vi else (fX10_readOf x2 vi).bind fun r1 => (fX10_bitsOf r1.1).bind fun r2 => (fX10_readOf x1 r1.2).bind fun r3 => (fX10_bitsOf r3.1).bind fun r4 => if r2 ≤ r4 then fX10_corner_38 (fX10_corner_5  F) x1 x2 r3.2 else fX10_corner_36 (fX10_corner_5  F) x2 r3.2
theorem tX10_corner_5 {G : GT} {sv : SV} {vl0 : VL} {ns : Nat} {Γ : CT} {r : Int32} {vi' : VI} (B : Base G Γ mX10_corner 2 0 0) (E : Ends G Γ 0 0 (QI r sv vi' vl0)) (hW : WF sv ns) : ∀ (F : Nat) (x1 : Int32) (x2 : Int32) (vi : VI), fX10_corner_5  F x1 x2 vi = some (r, vi') → J G Γ 0 0 5 [(0, .ref (G.1 + 63)), (1, .int x1), (2, .int x2)] [] sv vi vl0 := by
  intro F
  induction F with
  | zero =>
    intro x1 x2 vi  h
    cases (show (none : Option (Int32 × VI)) = some (r, vi') from h)
  | succ F ih =>
    intro x1 x2 vi  h
    rw [fX10_corner_5] at h
    refine j_iload_n B dX10_corner_5 rfl 2 rfl ?_
    refine j_aload_n B dX10_corner_6 rfl 0 rfl ?_
    refine gf_RX10_121 B rfl (wf_65 hW) dX10_corner_7 ?_
    refine j_icmp_ge (tgt := 44) B dX10_corner_10 (by decide) (fun c => ?_) (fun c => ?_)
    · replace h := h_pos c h
      refine j_iload_n B dX10_corner_44 rfl 1 rfl ?_
      obtain ⟨e1, e2⟩ := Prod.mk.inj (Option.some.inj h)
      subst e1
      subst e2
      exact j_iret B E rfl dX10_corner_45 (Nat.le_refl _) (Nat.le_refl _) ⟨rfl, rfl, rfl, rfl⟩
    · replace h := h_neg c h
      refine j_iload_n B dX10_corner_13 rfl 1 rfl ?_
      refine j_if_lt (tgt := 36) B dX10_corner_14 (by decide) (fun c => ?_) (fun c => ?_)
      · replace h := h_pos c h
        refine j_locals [0, 2] rfl ?_
        exact tX10_corner_36 B E hW ih (x2) (vi)  h
      · replace h := h_neg c h
        refine j_aload_n B dX10_corner_17 rfl 0 rfl ?_
        refine j_iload_n B dX10_corner_18 rfl 2 rfl ?_
        obtain ⟨r1, hr1, h⟩ := h_bind h
        refine j_cVI (rest := []) B (tX10_readOf hW hr1) cls10 (wf_65 hW) jt_RX10_308 wi_X10_readOf ws_X10_readOf rfl (by decide) (Nat.le_refl _) (Nat.le_refl _) rfl (Nat.le_of_ble_eq_true rfl) dX10_corner_19 ?_
        obtain ⟨r2, hr2, h⟩ := h_bind h
        refine j_cSI (rest := []) B (tX10_bitsOf hr2) jt_RX10_299 wst_X10_bitsOf rfl (by decide) (Nat.le_refl _) (Nat.le_refl _) rfl (Nat.le_of_ble_eq_true rfl) dX10_corner_22 ?_
        refine j_aload_n B dX10_corner_25 rfl 0 rfl ?_
        refine j_iload_n B dX10_corner_26 rfl 1 rfl ?_
        obtain ⟨r3, hr3, h⟩ := h_bind h
        refine j_cVI (rest := [.int r2]) B (tX10_readOf hW hr3) cls10 (wf_65 hW) jt_RX10_308 wi_X10_readOf ws_X10_readOf rfl (by decide) (Nat.le_refl _) (Nat.le_refl _) rfl (Nat.le_of_ble_eq_true rfl) dX10_corner_27 ?_
        obtain ⟨r4, hr4, h⟩ := h_bind h
        refine j_cSI (rest := [.int r2]) B (tX10_bitsOf hr4) jt_RX10_299 wst_X10_bitsOf rfl (by decide) (Nat.le_refl _) (Nat.le_refl _) rfl (Nat.le_of_ble_eq_true rfl) dX10_corner_30 ?_
        refine j_icmp_le (tgt := 38) B dX10_corner_33 (by decide) (fun c => ?_) (fun c => ?_)
        · replace h := h_pos c h
          refine j_locals [0, 1, 2] rfl ?_
          exact tX10_corner_38 B E hW ih (x1) (x2) (r3.2)  h
        · replace h := h_neg c h
          refine j_locals [0, 2] rfl ?_
          exact tX10_corner_36 B E hW ih (x2) (r3.2)  h
def fX10_corner  (vi0 : VI) : Option (Int32 × VI) := fX10_corner_5  FU (-2) 0 vi0
theorem tX10_corner {G : GT} {sv : SV} {vi0 : VI} {vl0 : VL} {ns : Nat} {r : Int32} {vi' : VI} (hW : WF sv ns) (h : fX10_corner vi0 = some (r, vi')) : Call G mX10_corner 2 0 0 [.ref (G.1 + 63)] sv vi0 vl0 (QI r sv vi' vl0) := by
  refine j_mk (by decide +kernel) (Nat.le_of_ble_eq_true rfl) (fun Γ B E => ?_)
  show J G Γ 0 0 0 [(0, .ref (G.1 + 63))] [] sv vi0 vl0
  unfold fX10_corner at h
  refine j_bipush B dX10_corner_0 (v := (-2)) (by decide) ?_
  refine j_istore_n (L' := [(1, .int (-2)), (0, .ref (G.1 + 63))]) B dX10_corner_2 rfl (by decide) rfl ?_
  refine j_iconst B dX10_corner_3 (v := 0) (by decide) ?_
  refine j_istore_n (L' := [(2, .int 0), (1, .int (-2)), (0, .ref (G.1 + 63))]) B dX10_corner_4 rfl (by decide) rfl ?_
  refine j_locals [2, 1, 0] rfl ?_
  exact tX10_corner_5 B E hW FU ((-2)) (0) (vi0)  h
def fX10_wayAt (x0 : Int32) (x1 : Int32) (x2 : Int32)  : Option (Int32) := some (((((x0 * 10) + x1) * 100) + x2))
theorem tX10_wayAt {G : GT} {sv : SV} {vi0 : VI} {vl0 : VL} {x0 : Int32} {x1 : Int32} {x2 : Int32} {r : Int32} (h : fX10_wayAt x0 x1 x2 = some (r)) : Call G mX10_wayAt 0 0 0 [.int x0, .int x1, .int x2] sv vi0 vl0 (QI r sv vi0 vl0) := by
  refine j_mk (by decide +kernel) (Nat.le_of_ble_eq_true rfl) (fun Γ B E => ?_)
  show J G Γ 0 0 0 [(0, .int x0), (1, .int x1), (2, .int x2)] [] sv vi0 vl0
  unfold fX10_wayAt at h
  refine j_iload_n B dX10_wayAt_0 rfl 0 rfl ?_
  refine j_bipush B dX10_wayAt_1 (v := 10) (by decide) ?_
  refine j_imul B dX10_wayAt_3 ?_
  refine j_iload_n B dX10_wayAt_4 rfl 1 rfl ?_
  refine j_iadd B dX10_wayAt_5 ?_
  refine j_bipush B dX10_wayAt_6 (v := 100) (by decide) ?_
  refine j_imul B dX10_wayAt_8 ?_
  refine j_iload_n B dX10_wayAt_9 rfl 2 rfl ?_
  refine j_iadd B dX10_wayAt_10 ?_
  have e1 := Option.some.inj h
  subst e1
  exact j_iret B E rfl dX10_wayAt_11 (Nat.le_refl _) (Nat.le_refl _) ⟨rfl, rfl, rfl, rfl⟩
def fX10_layAmounts_15  (k7 : Int32 → Int32 → VI → Option (VI)) : Nat → Int32 → Int32 → Int32 → VI → Option (VI)
  | 0, _, _, _, _ => none
  | F + 1, x1, x2, x3, vi => if 60 ≤ x3 then k7 x1 (x2 + 1) vi else (fX10_laysBy x1 (x3 / 10) (x3 - x3 / 10 * 10) x2 vi).bind fun r2 => if inb ((60 * x2) + x3) 600 = true then fX10_layAmounts_15 k7 F x1 x2 (x3 + 1) (j_up r2.2 85 ((60 * x2) + x3).toNatClampNeg r2.1) else none
theorem tX10_layAmounts_15 {G : GT} {sv : SV} {vl0 : VL} {ns : Nat} {Γ : CT} {vi' : VI} {k7 : Int32 → Int32 → VI → Option (VI)} (B : Base G Γ mX10_layAmounts 4 0 0) (E : Ends G Γ 0 0 (QV sv vi' vl0)) (hW : WF sv ns) (hk7 : ∀ (x1 : Int32) (x2 : Int32) (vi : VI), k7 x1 x2 vi = some (vi') → J G Γ 0 0 7 [(0, .ref (G.1 + 63)), (1, .int x1), (2, .int x2)] [] sv vi vl0) : ∀ (F : Nat) (x1 : Int32) (x2 : Int32) (x3 : Int32) (vi : VI), fX10_layAmounts_15 k7 F x1 x2 x3 vi = some (vi') → J G Γ 0 0 15 [(0, .ref (G.1 + 63)), (1, .int x1), (2, .int x2), (3, .int x3)] [] sv vi vl0 := by
  intro F
  induction F with
  | zero =>
    intro x1 x2 x3 vi  h
    cases (show (none : Option (VI)) = some (vi') from h)
  | succ F ih =>
    intro x1 x2 x3 vi  h
    rw [fX10_layAmounts_15] at h
    refine j_iload_n B dX10_layAmounts_15 rfl 3 rfl ?_
    refine j_bipush B dX10_layAmounts_16 (v := 60) (by decide) ?_
    refine j_icmp_ge (tgt := 52) B dX10_layAmounts_18 (by decide) (fun c => ?_) (fun c => ?_)
    · replace h := h_pos c h
      refine j_iinc (v := (x2 + 1)) (L' := [(2, .int (x2 + 1)), (0, .ref (G.1 + 63)), (1, .int x1), (3, .int x3)]) B dX10_layAmounts_52 2 rfl rfl (by decide) rfl ?_
      refine j_goto (tgt := 7) B dX10_layAmounts_55 (by decide) ?_
      refine j_locals [1, 2, 0] rfl ?_
      exact hk7 (x1) ((x2 + 1)) (vi)  h
    · replace h := h_neg c h
      refine j_aload_n B dX10_layAmounts_21 rfl 0 rfl ?_
      refine gf_RX10_78 B rfl (wf_65 hW) (wf_183 hW) dX10_layAmounts_22 ?_
      refine j_bipush B dX10_layAmounts_25 (v := 60) (by decide) ?_
      refine j_iload_n B dX10_layAmounts_27 rfl 2 rfl ?_
      refine j_imul B dX10_layAmounts_28 ?_
      refine j_iload_n B dX10_layAmounts_29 rfl 3 rfl ?_
      refine j_iadd B dX10_layAmounts_30 ?_
      refine j_aload_n B dX10_layAmounts_31 rfl 0 rfl ?_
      refine j_iload_n B dX10_layAmounts_32 rfl 1 rfl ?_
      refine j_iload_n B dX10_layAmounts_33 rfl 3 rfl ?_
      refine j_bipush B dX10_layAmounts_34 (v := 10) (by decide) ?_
      refine j_idiv B dX10_layAmounts_36 (by decide) ?_
      refine j_iload_n B dX10_layAmounts_37 rfl 3 rfl ?_
      refine j_bipush B dX10_layAmounts_38 (v := 10) (by decide) ?_
      refine j_irem B dX10_layAmounts_40 (by decide) ?_
      refine j_iload_n B dX10_layAmounts_41 rfl 2 rfl ?_
      obtain ⟨r2, hr2, h⟩ := h_bind h
      refine j_cVI (rest := [.int ((60 * x2) + x3), .ref (G.1 + 85)]) B (tX10_laysBy hW hr2) cls10 (wf_65 hW) jt_RX10_259 wi_X10_laysBy ws_X10_laysBy rfl (by decide) (Nat.le_refl _) (Nat.le_refl _) rfl (Nat.le_of_ble_eq_true rfl) dX10_layAmounts_42 ?_
      obtain ⟨b3, h⟩ := h_inb h
      refine j_iast B ((wf_87 hW)) b3 dX10_layAmounts_45 ?_
      refine j_iinc (v := (x3 + 1)) (L' := [(3, .int (x3 + 1)), (0, .ref (G.1 + 63)), (1, .int x1), (2, .int x2)]) B dX10_layAmounts_46 3 rfl rfl (by decide) rfl ?_
      refine j_goto (tgt := 15) B dX10_layAmounts_49 (by decide) ?_
      refine j_locals [1, 2, 3, 0] rfl ?_
      exact ih (x1) (x2) ((x3 + 1)) ((j_up r2.2 85 ((60 * x2) + x3).toNatClampNeg r2.1))  h
def fX10_layAmounts_7  : Nat → Int32 → Int32 → VI → Option (VI)
  | 0, _, _, _ => none
  | F + 1, x1, x2, vi => if 10 ≤ x2 then some (vi) else fX10_layAmounts_15 (fX10_layAmounts_7  F) FU x1 x2 0 vi
theorem tX10_layAmounts_7 {G : GT} {sv : SV} {vl0 : VL} {ns : Nat} {Γ : CT} {vi' : VI} (B : Base G Γ mX10_layAmounts 4 0 0) (E : Ends G Γ 0 0 (QV sv vi' vl0)) (hW : WF sv ns) : ∀ (F : Nat) (x1 : Int32) (x2 : Int32) (vi : VI), fX10_layAmounts_7  F x1 x2 vi = some (vi') → J G Γ 0 0 7 [(0, .ref (G.1 + 63)), (1, .int x1), (2, .int x2)] [] sv vi vl0 := by
  intro F
  induction F with
  | zero =>
    intro x1 x2 vi  h
    cases (show (none : Option (VI)) = some (vi') from h)
  | succ F ih =>
    intro x1 x2 vi  h
    rw [fX10_layAmounts_7] at h
    refine j_iload_n B dX10_layAmounts_7 rfl 2 rfl ?_
    refine j_bipush B dX10_layAmounts_8 (v := 10) (by decide) ?_
    refine j_icmp_ge (tgt := 58) B dX10_layAmounts_10 (by decide) (fun c => ?_) (fun c => ?_)
    · replace h := h_pos c h
      have e1 := Option.some.inj h
      subst e1
      exact j_vret B E rfl dX10_layAmounts_58 (Nat.le_refl _) (Nat.le_refl _) ⟨rfl, rfl, rfl, rfl⟩
    · replace h := h_neg c h
      refine j_iconst B dX10_layAmounts_13 (v := 0) (by decide) ?_
      refine j_istore_n (L' := [(3, .int 0), (0, .ref (G.1 + 63)), (1, .int x1), (2, .int x2)]) B dX10_layAmounts_14 rfl (by decide) rfl ?_
      refine j_locals [1, 2, 3, 0] rfl ?_
      exact tX10_layAmounts_15 B E hW ih FU (x1) (x2) (0) (vi)  h
def fX10_layAmounts (x1 : Int32) (vi0 : VI) : Option (VI) := (fX10_layNow x1 vi0).bind fun r1 => fX10_layAmounts_7  FU x1 0 r1
theorem tX10_layAmounts {G : GT} {sv : SV} {vi0 : VI} {vl0 : VL} {ns : Nat} {x1 : Int32} {vi' : VI} (hW : WF sv ns) (h : fX10_layAmounts x1 vi0 = some (vi')) : Call G mX10_layAmounts 4 0 0 [.ref (G.1 + 63), .int x1] sv vi0 vl0 (QV sv vi' vl0) := by
  refine j_mk (by decide +kernel) (Nat.le_of_ble_eq_true rfl) (fun Γ B E => ?_)
  show J G Γ 0 0 0 [(0, .ref (G.1 + 63)), (1, .int x1)] [] sv vi0 vl0
  unfold fX10_layAmounts at h
  refine j_aload_n B dX10_layAmounts_0 rfl 0 rfl ?_
  refine j_iload_n B dX10_layAmounts_1 rfl 1 rfl ?_
  obtain ⟨r1, hr1, h⟩ := h_bind h
  refine j_cVV (rest := []) B (tX10_layNow hW hr1) cls10 (wf_65 hW) jt_RX10_169 wi_X10_layNow ws_X10_layNow rfl (by decide) (Nat.le_refl _) (Nat.le_refl _) rfl (Nat.le_of_ble_eq_true rfl) dX10_layAmounts_2 ?_
  refine j_iconst B dX10_layAmounts_5 (v := 0) (by decide) ?_
  refine j_istore_n (L' := [(2, .int 0), (0, .ref (G.1 + 63)), (1, .int x1)]) B dX10_layAmounts_6 rfl (by decide) rfl ?_
  refine j_locals [1, 2, 0] rfl ?_
  exact tX10_layAmounts_7 B E hW FU (x1) (0) (r1)  h
def fX10_waysBy_105 (vi0 : VI) (vl0 : VL) (x1 : Int32) (x2 : Int32) (x4 : Int32) (x5 : Int32) : Option (Int64) := if x2 = (vi0 63 30) then some (0) else if 9 ≤ x2 then some (0) else if inb x2 13 = true then if (vi0 82 x2.toNatClampNeg) = (x4 / 10) then if inb x2 13 = true then if x5 ≤ (vi0 83 x2.toNatClampNeg) then (fX10_wayAt (x1 - 1) (x2 + 1) x5).bind fun r4 => if inb r4 10000 = true then some ((vl0 84 r4.toNatClampNeg)) else none else some (0) else none else some (0) else none
theorem tX10_waysBy_105 {G : GT} {sv : SV} {vi0 : VI} {vl0 : VL} {ns : Nat} {Γ : CT} {r : Int64} (B : Base G Γ mX10_waysBy 1 0 0) (E : Ends G Γ 0 0 (QJ r sv vi0 vl0)) (hW : WF sv ns) : ∀ (x1 : Int32) (x2 : Int32) (x4 : Int32) (x5 : Int32), fX10_waysBy_105 vi0 vl0 x1 x2 x4 x5 = some (r) → J G Γ 0 0 105 [(0, .ref (G.1 + 63)), (1, .int x1), (2, .int x2), (4, .int x4), (5, .int x5)] [] sv vi0 vl0 := by
  intro x1 x2 x4 x5  h
  unfold fX10_waysBy_105 at h
  refine j_iload_n B dX10_waysBy_105 rfl 2 rfl ?_
  refine j_aload_n B dX10_waysBy_106 rfl 0 rfl ?_
  refine gf_RX10_173 B rfl (wf_65 hW) dX10_waysBy_107 ?_
  refine j_icmp_eq (tgt := 144) B dX10_waysBy_110 (by decide) (fun c => ?_) (fun c => ?_)
  · replace h := h_pos c h
    refine j_lconst B dX10_waysBy_144 (v := 0) rfl ?_
    have e1 := Option.some.inj h
    subst e1
    exact j_lret B E rfl dX10_waysBy_145 (Nat.le_refl _) (Nat.le_refl _) ⟨rfl, rfl, rfl, rfl⟩
  · replace h := h_neg c h
    refine j_iload_n B dX10_waysBy_113 rfl 2 rfl ?_
    refine j_bipush B dX10_waysBy_114 (v := 9) (by decide) ?_
    refine j_icmp_ge (tgt := 144) B dX10_waysBy_116 (by decide) (fun c => ?_) (fun c => ?_)
    · replace h := h_pos c h
      refine j_lconst B dX10_waysBy_144 (v := 0) rfl ?_
      have e1 := Option.some.inj h
      subst e1
      exact j_lret B E rfl dX10_waysBy_145 (Nat.le_refl _) (Nat.le_refl _) ⟨rfl, rfl, rfl, rfl⟩
    · replace h := h_neg c h
      refine j_aload_n B dX10_waysBy_119 rfl 0 rfl ?_
      refine gf_RX10_68 B rfl (wf_65 hW) (wf_180 hW) dX10_waysBy_120 ?_
      refine j_iload_n B dX10_waysBy_123 rfl 2 rfl ?_
      obtain ⟨b2, h⟩ := h_inb h
      refine j_iald B ((wf_84 hW)) b2 dX10_waysBy_124 ?_
      refine j_iload B dX10_waysBy_125 3 rfl ?_
      refine j_bipush B dX10_waysBy_127 (v := 10) (by decide) ?_
      refine j_idiv B dX10_waysBy_129 (by decide) ?_
      refine j_icmp_ne (tgt := 144) B dX10_waysBy_130 (by decide) (fun c => ?_) (fun c => ?_)
      · replace h := h_neg c h
        refine j_lconst B dX10_waysBy_144 (v := 0) rfl ?_
        have e1 := Option.some.inj h
        subst e1
        exact j_lret B E rfl dX10_waysBy_145 (Nat.le_refl _) (Nat.le_refl _) ⟨rfl, rfl, rfl, rfl⟩
      · replace h := h_pos c h
        refine j_iload B dX10_waysBy_133 4 rfl ?_
        refine j_aload_n B dX10_waysBy_135 rfl 0 rfl ?_
        refine gf_RX10_71 B rfl (wf_65 hW) (wf_181 hW) dX10_waysBy_136 ?_
        refine j_iload_n B dX10_waysBy_139 rfl 2 rfl ?_
        obtain ⟨b3, h⟩ := h_inb h
        refine j_iald B ((wf_85 hW)) b3 dX10_waysBy_140 ?_
        refine j_icmp_le (tgt := 146) B dX10_waysBy_141 (by decide) (fun c => ?_) (fun c => ?_)
        · replace h := h_pos c h
          refine j_aload_n B dX10_waysBy_146 rfl 0 rfl ?_
          refine gf_RX10_74 B rfl (wf_65 hW) (wf_182 hW) dX10_waysBy_147 ?_
          refine j_iload_n B dX10_waysBy_150 rfl 1 rfl ?_
          refine j_iconst B dX10_waysBy_151 (v := 1) (by decide) ?_
          refine j_isub B dX10_waysBy_152 ?_
          refine j_iload_n B dX10_waysBy_153 rfl 2 rfl ?_
          refine j_iconst B dX10_waysBy_154 (v := 1) (by decide) ?_
          refine j_iadd B dX10_waysBy_155 ?_
          refine j_iload B dX10_waysBy_156 4 rfl ?_
          obtain ⟨r4, hr4, h⟩ := h_bind h
          refine j_cSI (rest := [.ref (G.1 + 84)]) B (tX10_wayAt hr4) jt_RX10_317 wst_X10_wayAt rfl (by decide) (Nat.le_refl _) (Nat.le_refl _) rfl (Nat.le_of_ble_eq_true rfl) dX10_waysBy_158 ?_
          obtain ⟨b5, h⟩ := h_inb h
          refine j_lald B ((wf_86 hW)) b5 dX10_waysBy_161 ?_
          have e1 := Option.some.inj h
          subst e1
          exact j_lret B E rfl dX10_waysBy_162 (Nat.le_refl _) (Nat.le_refl _) ⟨rfl, rfl, rfl, rfl⟩
        · replace h := h_neg c h
          refine j_lconst B dX10_waysBy_144 (v := 0) rfl ?_
          have e1 := Option.some.inj h
          subst e1
          exact j_lret B E rfl dX10_waysBy_145 (Nat.le_refl _) (Nat.le_refl _) ⟨rfl, rfl, rfl, rfl⟩
def fX10_waysBy_89 (vi0 : VI) (vl0 : VL) (x1 : Int32) (x2 : Int32) (x3 : Int32) (x4 : Int32) (x5 : Int32) : Option (Int64) := if x2 ≤ 0 then fX10_waysBy_105 vi0 vl0 x1 x2 x4 x5 else if inb (x2 - 1) 13 = true then if x3 = (vi0 83 (x2 - 1).toNatClampNeg) then fX10_waysBy_105 vi0 vl0 x1 x2 x4 x5 else some (0) else none
theorem tX10_waysBy_89 {G : GT} {sv : SV} {vi0 : VI} {vl0 : VL} {ns : Nat} {Γ : CT} {r : Int64} (B : Base G Γ mX10_waysBy 1 0 0) (E : Ends G Γ 0 0 (QJ r sv vi0 vl0)) (hW : WF sv ns) : ∀ (x1 : Int32) (x2 : Int32) (x3 : Int32) (x4 : Int32) (x5 : Int32), fX10_waysBy_89 vi0 vl0 x1 x2 x3 x4 x5 = some (r) → J G Γ 0 0 89 [(0, .ref (G.1 + 63)), (1, .int x1), (2, .int x2), (3, .int x3), (4, .int x4), (5, .int x5)] [] sv vi0 vl0 := by
  intro x1 x2 x3 x4 x5  h
  unfold fX10_waysBy_89 at h
  refine j_iload_n B dX10_waysBy_89 rfl 2 rfl ?_
  refine j_if_le (tgt := 105) B dX10_waysBy_90 (by decide) (fun c => ?_) (fun c => ?_)
  · replace h := h_pos c h
    refine j_locals [0, 1, 2, 4, 5] rfl ?_
    exact tX10_waysBy_105 B E hW (x1) (x2) (x4) (x5)  h
  · replace h := h_neg c h
    refine j_iload_n B dX10_waysBy_93 rfl 3 rfl ?_
    refine j_aload_n B dX10_waysBy_94 rfl 0 rfl ?_
    refine gf_RX10_71 B rfl (wf_65 hW) (wf_181 hW) dX10_waysBy_95 ?_
    refine j_iload_n B dX10_waysBy_98 rfl 2 rfl ?_
    refine j_iconst B dX10_waysBy_99 (v := 1) (by decide) ?_
    refine j_isub B dX10_waysBy_100 ?_
    obtain ⟨b6, h⟩ := h_inb h
    refine j_iald B ((wf_85 hW)) b6 dX10_waysBy_101 ?_
    refine j_icmp_ne (tgt := 144) B dX10_waysBy_102 (by decide) (fun c => ?_) (fun c => ?_)
    · replace h := h_neg c h
      refine j_lconst B dX10_waysBy_144 (v := 0) rfl ?_
      have e1 := Option.some.inj h
      subst e1
      exact j_lret B E rfl dX10_waysBy_145 (Nat.le_refl _) (Nat.le_refl _) ⟨rfl, rfl, rfl, rfl⟩
    · replace h := h_pos c h
      refine j_locals [0, 1, 2, 4, 5] rfl ?_
      exact tX10_waysBy_105 B E hW (x1) (x2) (x4) (x5)  h
def fX10_waysBy (x1 : Int32) (x2 : Int32) (x3 : Int32) (x4 : Int32) (vi0 : VI) (vl0 : VL) : Option (Int64) := if inb ((60 * x2) + x4) 600 = true then if (vi0 85 ((60 * x2) + x4).toNatClampNeg) = 0 then (fX10_wayAt (x1 - 1) x2 x3).bind fun r11 => if inb r11 10000 = true then some ((vl0 84 r11.toNatClampNeg)) else none else if x2 ≤ 0 then fX10_waysBy_89 vi0 vl0 x1 x2 x3 x4 (vi0 85 ((60 * x2) + x4).toNatClampNeg) else if inb (x2 - 1) 13 = true then if (vi0 82 (x2 - 1).toNatClampNeg) = (x4 / 10) then if inb (x2 - 1) 13 = true then if (vi0 83 (x2 - 1).toNatClampNeg) < (x3 + (vi0 85 ((60 * x2) + x4).toNatClampNeg)) then some (0) else (fX10_wayAt (x1 - 1) x2 (x3 + (vi0 85 ((60 * x2) + x4).toNatClampNeg))).bind fun r9 => if inb r9 10000 = true then some ((vl0 84 r9.toNatClampNeg)) else none else none else fX10_waysBy_89 vi0 vl0 x1 x2 x3 x4 (vi0 85 ((60 * x2) + x4).toNatClampNeg) else none else none
theorem tX10_waysBy {G : GT} {sv : SV} {vi0 : VI} {vl0 : VL} {ns : Nat} {x1 : Int32} {x2 : Int32} {x3 : Int32} {x4 : Int32} {r : Int64} (hW : WF sv ns) (h : fX10_waysBy x1 x2 x3 x4 vi0 vl0 = some (r)) : Call G mX10_waysBy 1 0 0 [.ref (G.1 + 63), .int x1, .int x2, .int x3, .int x4] sv vi0 vl0 (QJ r sv vi0 vl0) := by
  refine j_mk (by decide +kernel) (Nat.le_of_ble_eq_true rfl) (fun Γ B E => ?_)
  show J G Γ 0 0 0 [(0, .ref (G.1 + 63)), (1, .int x1), (2, .int x2), (3, .int x3), (4, .int x4)] [] sv vi0 vl0
  unfold fX10_waysBy at h
  refine j_aload_n B dX10_waysBy_0 rfl 0 rfl ?_
  refine gf_RX10_78 B rfl (wf_65 hW) (wf_183 hW) dX10_waysBy_1 ?_
  refine j_bipush B dX10_waysBy_4 (v := 60) (by decide) ?_
  refine j_iload_n B dX10_waysBy_6 rfl 2 rfl ?_
  refine j_imul B dX10_waysBy_7 ?_
  refine j_iload B dX10_waysBy_8 4 rfl ?_
  refine j_iadd B dX10_waysBy_10 ?_
  obtain ⟨b1, h⟩ := h_inb h
  refine j_iald B ((wf_87 hW)) b1 dX10_waysBy_11 ?_
  refine j_istore (L' := [(5, .int (vi0 85 ((60 * x2) + x4).toNatClampNeg)), (0, .ref (G.1 + 63)), (1, .int x1), (2, .int x2), (3, .int x3), (4, .int x4)]) B dX10_waysBy_12 (by decide) rfl ?_
  refine j_iload B dX10_waysBy_14 0 rfl ?_
  refine j_if_ne (tgt := 33) B dX10_waysBy_16 (by decide) (fun c => ?_) (fun c => ?_)
  · replace h := h_neg c h
    refine j_iload_n B dX10_waysBy_33 rfl 3 rfl ?_
    refine j_if_le (tgt := 89) B dX10_waysBy_34 (by decide) (fun c => ?_) (fun c => ?_)
    · replace h := h_pos c h
      refine j_locals [1, 2, 3, 4, 5, 0] rfl ?_
      exact tX10_waysBy_89 B E hW (x1) (x2) (x3) (x4) ((vi0 85 ((60 * x2) + x4).toNatClampNeg))  h
    · replace h := h_neg c h
      refine j_aload_n B dX10_waysBy_37 rfl 1 rfl ?_
      refine gf_RX10_68 B rfl (wf_65 hW) (wf_180 hW) dX10_waysBy_38 ?_
      refine j_iload_n B dX10_waysBy_41 rfl 3 rfl ?_
      refine j_iconst B dX10_waysBy_42 (v := 1) (by decide) ?_
      refine j_isub B dX10_waysBy_43 ?_
      obtain ⟨b7, h⟩ := h_inb h
      refine j_iald B ((wf_84 hW)) b7 dX10_waysBy_44 ?_
      refine j_iload B dX10_waysBy_45 5 rfl ?_
      refine j_bipush B dX10_waysBy_47 (v := 10) (by decide) ?_
      refine j_idiv B dX10_waysBy_49 (by decide) ?_
      refine j_icmp_ne (tgt := 89) B dX10_waysBy_50 (by decide) (fun c => ?_) (fun c => ?_)
      · replace h := h_neg c h
        refine j_locals [1, 2, 3, 4, 5, 0] rfl ?_
        exact tX10_waysBy_89 B E hW (x1) (x2) (x3) (x4) ((vi0 85 ((60 * x2) + x4).toNatClampNeg))  h
      · replace h := h_pos c h
        refine j_iload_n B dX10_waysBy_53 rfl 4 rfl ?_
        refine j_iload B dX10_waysBy_54 0 rfl ?_
        refine j_iadd B dX10_waysBy_56 ?_
        refine j_aload_n B dX10_waysBy_57 rfl 1 rfl ?_
        refine gf_RX10_71 B rfl (wf_65 hW) (wf_181 hW) dX10_waysBy_58 ?_
        refine j_iload_n B dX10_waysBy_61 rfl 3 rfl ?_
        refine j_iconst B dX10_waysBy_62 (v := 1) (by decide) ?_
        refine j_isub B dX10_waysBy_63 ?_
        obtain ⟨b8, h⟩ := h_inb h
        refine j_iald B ((wf_85 hW)) b8 dX10_waysBy_64 ?_
        refine j_icmp_gt (tgt := 87) B dX10_waysBy_65 (by decide) (fun c => ?_) (fun c => ?_)
        · replace h := h_pos c h
          refine j_lconst B dX10_waysBy_87 (v := 0) rfl ?_
          have e1 := Option.some.inj h
          subst e1
          exact j_lret B E rfl dX10_waysBy_88 (Nat.le_refl _) (Nat.le_refl _) ⟨rfl, rfl, rfl, rfl⟩
        · replace h := h_neg c h
          refine j_aload_n B dX10_waysBy_68 rfl 1 rfl ?_
          refine gf_RX10_74 B rfl (wf_65 hW) (wf_182 hW) dX10_waysBy_69 ?_
          refine j_iload_n B dX10_waysBy_72 rfl 2 rfl ?_
          refine j_iconst B dX10_waysBy_73 (v := 1) (by decide) ?_
          refine j_isub B dX10_waysBy_74 ?_
          refine j_iload_n B dX10_waysBy_75 rfl 3 rfl ?_
          refine j_iload_n B dX10_waysBy_76 rfl 4 rfl ?_
          refine j_iload B dX10_waysBy_77 0 rfl ?_
          refine j_iadd B dX10_waysBy_79 ?_
          obtain ⟨r9, hr9, h⟩ := h_bind h
          refine j_cSI (rest := [.ref (G.1 + 84)]) B (tX10_wayAt hr9) jt_RX10_317 wst_X10_wayAt rfl (by decide) (Nat.le_refl _) (Nat.le_refl _) rfl (Nat.le_of_ble_eq_true rfl) dX10_waysBy_80 ?_
          obtain ⟨b10, h⟩ := h_inb h
          refine j_lald B ((wf_86 hW)) b10 dX10_waysBy_83 ?_
          refine j_goto (tgt := 88) B dX10_waysBy_84 (by decide) ?_
          have e1 := Option.some.inj h
          subst e1
          exact j_lret B E rfl dX10_waysBy_88 (Nat.le_refl _) (Nat.le_refl _) ⟨rfl, rfl, rfl, rfl⟩
  · replace h := h_pos c h
    refine j_aload_n B dX10_waysBy_19 rfl 1 rfl ?_
    refine gf_RX10_74 B rfl (wf_65 hW) (wf_182 hW) dX10_waysBy_20 ?_
    refine j_iload_n B dX10_waysBy_23 rfl 2 rfl ?_
    refine j_iconst B dX10_waysBy_24 (v := 1) (by decide) ?_
    refine j_isub B dX10_waysBy_25 ?_
    refine j_iload_n B dX10_waysBy_26 rfl 3 rfl ?_
    refine j_iload_n B dX10_waysBy_27 rfl 4 rfl ?_
    obtain ⟨r11, hr11, h⟩ := h_bind h
    refine j_cSI (rest := [.ref (G.1 + 84)]) B (tX10_wayAt hr11) jt_RX10_317 wst_X10_wayAt rfl (by decide) (Nat.le_refl _) (Nat.le_refl _) rfl (Nat.le_of_ble_eq_true rfl) dX10_waysBy_28 ?_
    obtain ⟨b12, h⟩ := h_inb h
    refine j_lald B ((wf_86 hW)) b12 dX10_waysBy_31 ?_
    have e1 := Option.some.inj h
    subst e1
    exact j_lret B E rfl dX10_waysBy_32 (Nat.le_refl _) (Nat.le_refl _) ⟨rfl, rfl, rfl, rfl⟩
def fX10_isWithout (x1 : Int32) (vi0 : VI) : Option (Bool) := if (x1 / 10) = (vi0 63 36) then some (true) else some (false)
theorem tX10_isWithout {G : GT} {sv : SV} {vi0 : VI} {vl0 : VL} {ns : Nat} {x1 : Int32} {r : Bool} (hW : WF sv ns) (h : fX10_isWithout x1 vi0 = some (r)) : Call G mX10_isWithout 0 0 0 [.ref (G.1 + 63), .int x1] sv vi0 vl0 (QI (b2i r) sv vi0 vl0) := by
  refine j_mk (by decide +kernel) (Nat.le_of_ble_eq_true rfl) (fun Γ B E => ?_)
  show J G Γ 0 0 0 [(0, .ref (G.1 + 63)), (1, .int x1)] [] sv vi0 vl0
  unfold fX10_isWithout at h
  refine j_iload_n B dX10_isWithout_0 rfl 1 rfl ?_
  refine j_bipush B dX10_isWithout_1 (v := 10) (by decide) ?_
  refine j_idiv B dX10_isWithout_3 (by decide) ?_
  refine j_aload_n B dX10_isWithout_4 rfl 0 rfl ?_
  refine gf_RX10_320 B rfl (wf_65 hW) dX10_isWithout_5 ?_
  refine j_icmp_ne (tgt := 15) B dX10_isWithout_8 (by decide) (fun c => ?_) (fun c => ?_)
  · replace h := h_neg c h
    refine j_iconst B dX10_isWithout_15 (v := 0) (by decide) ?_
    have e1 := Option.some.inj h
    subst e1
    exact j_zret B E rfl (Or.inl rfl) dX10_isWithout_16 (Nat.le_refl _) (Nat.le_refl _) ⟨rfl, rfl, rfl, rfl⟩
  · replace h := h_pos c h
    refine j_iconst B dX10_isWithout_11 (v := 1) (by decide) ?_
    refine j_goto (tgt := 16) B dX10_isWithout_12 (by decide) ?_
    have e1 := Option.some.inj h
    subst e1
    exact j_zret B E rfl (Or.inr rfl) dX10_isWithout_16 (Nat.le_refl _) (Nat.le_refl _) ⟨rfl, rfl, rfl, rfl⟩
def fX10_isThere_31 (vi0 : VI) : Option (Int64) := some (1)
theorem tX10_isThere_31 {G : GT} {sv : SV} {vi0 : VI} {vl0 : VL} {ns : Nat} {Γ : CT} {r : Int64} (B : Base G Γ mX10_isThere 0 0 0) (E : Ends G Γ 0 0 (QJ r sv vi0 vl0)) (hW : WF sv ns) : fX10_isThere_31 vi0  = some (r) → J G Γ 0 0 31 [] [] sv vi0 vl0 := by
  intro   h
  unfold fX10_isThere_31 at h
  refine j_lconst B dX10_isThere_31 (v := 1) rfl ?_
  refine j_goto (tgt := 36) B dX10_isThere_32 (by decide) ?_
  have e1 := Option.some.inj h
  subst e1
  exact j_lret B E rfl dX10_isThere_36 (Nat.le_refl _) (Nat.le_refl _) ⟨rfl, rfl, rfl, rfl⟩
def fX10_isThere (x1 : Int32) (x2 : Int32) (vi0 : VI) : Option (Int64) := if x1 = (vi0 63 30) then if x1 = 0 then if x2 = 0 then fX10_isThere_31 vi0  else some (0) else if inb (x1 - 1) 13 = true then if x2 = (vi0 83 (x1 - 1).toNatClampNeg) then fX10_isThere_31 vi0  else some (0) else none else some (0)
theorem tX10_isThere {G : GT} {sv : SV} {vi0 : VI} {vl0 : VL} {ns : Nat} {x1 : Int32} {x2 : Int32} {r : Int64} (hW : WF sv ns) (h : fX10_isThere x1 x2 vi0 = some (r)) : Call G mX10_isThere 0 0 0 [.ref (G.1 + 63), .int x1, .int x2] sv vi0 vl0 (QJ r sv vi0 vl0) := by
  refine j_mk (by decide +kernel) (Nat.le_of_ble_eq_true rfl) (fun Γ B E => ?_)
  show J G Γ 0 0 0 [(0, .ref (G.1 + 63)), (1, .int x1), (2, .int x2)] [] sv vi0 vl0
  unfold fX10_isThere at h
  refine j_iload_n B dX10_isThere_0 rfl 1 rfl ?_
  refine j_aload_n B dX10_isThere_1 rfl 0 rfl ?_
  refine gf_RX10_173 B rfl (wf_65 hW) dX10_isThere_2 ?_
  refine j_icmp_ne (tgt := 35) B dX10_isThere_5 (by decide) (fun c => ?_) (fun c => ?_)
  · replace h := h_neg c h
    refine j_lconst B dX10_isThere_35 (v := 0) rfl ?_
    have e1 := Option.some.inj h
    subst e1
    exact j_lret B E rfl dX10_isThere_36 (Nat.le_refl _) (Nat.le_refl _) ⟨rfl, rfl, rfl, rfl⟩
  · replace h := h_pos c h
    refine j_iload_n B dX10_isThere_8 rfl 1 rfl ?_
    refine j_if_ne (tgt := 19) B dX10_isThere_9 (by decide) (fun c => ?_) (fun c => ?_)
    · replace h := h_neg c h
      refine j_iload_n B dX10_isThere_19 rfl 2 rfl ?_
      refine j_aload_n B dX10_isThere_20 rfl 0 rfl ?_
      refine gf_RX10_71 B rfl (wf_65 hW) (wf_181 hW) dX10_isThere_21 ?_
      refine j_iload_n B dX10_isThere_24 rfl 1 rfl ?_
      refine j_iconst B dX10_isThere_25 (v := 1) (by decide) ?_
      refine j_isub B dX10_isThere_26 ?_
      obtain ⟨b1, h⟩ := h_inb h
      refine j_iald B ((wf_85 hW)) b1 dX10_isThere_27 ?_
      refine j_icmp_ne (tgt := 35) B dX10_isThere_28 (by decide) (fun c => ?_) (fun c => ?_)
      · replace h := h_neg c h
        refine j_lconst B dX10_isThere_35 (v := 0) rfl ?_
        have e1 := Option.some.inj h
        subst e1
        exact j_lret B E rfl dX10_isThere_36 (Nat.le_refl _) (Nat.le_refl _) ⟨rfl, rfl, rfl, rfl⟩
      · replace h := h_pos c h
        refine j_locals [] rfl ?_
        exact tX10_isThere_31 B E hW   h
    · replace h := h_pos c h
      refine j_iload_n B dX10_isThere_12 rfl 2 rfl ?_
      refine j_if_ne (tgt := 35) B dX10_isThere_13 (by decide) (fun c => ?_) (fun c => ?_)
      · replace h := h_neg c h
        refine j_lconst B dX10_isThere_35 (v := 0) rfl ?_
        have e1 := Option.some.inj h
        subst e1
        exact j_lret B E rfl dX10_isThere_36 (Nat.le_refl _) (Nat.le_refl _) ⟨rfl, rfl, rfl, rfl⟩
      · replace h := h_pos c h
        refine j_goto (tgt := 31) B dX10_isThere_16 (by decide) ?_
        refine j_locals [] rfl ?_
        exact tX10_isThere_31 B E hW   h
def fX10_sumWays_70 (vi0 : VI) (vl0 : VL) (k40 : Int32 → Int32 → Int32 → Int64 → Int32 → Option (Int64)) (x1 : Int32) (x2 : Int32) (x3 : Int32) (x4 : Int64) (x6 : Int32) : Option (Int64) := k40 x1 x2 x3 x4 (x6 + 1)
theorem tX10_sumWays_70 {G : GT} {sv : SV} {vi0 : VI} {vl0 : VL} {ns : Nat} {Γ : CT} {r : Int64} {k40 : Int32 → Int32 → Int32 → Int64 → Int32 → Option (Int64)} (B : Base G Γ mX10_sumWays 2 0 0) (E : Ends G Γ 0 0 (QJ r sv vi0 vl0)) (hW : WF sv ns) (hk40 : ∀ (x1 : Int32) (x2 : Int32) (x3 : Int32) (x4 : Int64) (x6 : Int32), k40 x1 x2 x3 x4 x6 = some (r) → J G Γ 0 0 40 [(0, .ref (G.1 + 63)), (1, .int x1), (2, .int x2), (3, .int x3), (4, .long x4), (6, .int x6)] [] sv vi0 vl0) : ∀ (x1 : Int32) (x2 : Int32) (x3 : Int32) (x4 : Int64) (x6 : Int32), fX10_sumWays_70 vi0 vl0 k40 x1 x2 x3 x4 x6 = some (r) → J G Γ 0 0 70 [(0, .ref (G.1 + 63)), (1, .int x1), (2, .int x2), (3, .int x3), (4, .long x4), (6, .int x6)] [] sv vi0 vl0 := by
  intro x1 x2 x3 x4 x6  h
  unfold fX10_sumWays_70 at h
  refine j_iinc (v := (x6 + 1)) (L' := [(6, .int (x6 + 1)), (0, .ref (G.1 + 63)), (1, .int x1), (2, .int x2), (3, .int x3), (4, .long x4)]) B dX10_sumWays_70 5 rfl rfl (by decide) rfl ?_
  refine j_goto (tgt := 40) B dX10_sumWays_73 (by decide) ?_
  refine j_locals [1, 2, 3, 4, 5, 0] rfl ?_
  exact hk40 (x1) (x2) (x3) (x4) ((x6 + 1))  h
def fX10_sumWays_40 (vi0 : VI) (vl0 : VL) : Nat → Int32 → Int32 → Int32 → Int64 → Int32 → Option (Int64)
  | 0, _, _, _, _, _ => none
  | F + 1, x1, x2, x3, x4, x6 => if 60 ≤ x6 then some (x4) else (fX10_isWithout x6 vi0).bind fun r1 => if r1 = true then fX10_sumWays_70 vi0 vl0 (fX10_sumWays_40 vi0 vl0 F) x1 x2 x3 x4 x6 else (fX10_waysBy x1 x2 x3 x6 vi0 vl0).bind fun r2 => fX10_sumWays_70 vi0 vl0 (fX10_sumWays_40 vi0 vl0 F) x1 x2 x3 (x4 + r2) x6
theorem tX10_sumWays_40 {G : GT} {sv : SV} {vi0 : VI} {vl0 : VL} {ns : Nat} {Γ : CT} {r : Int64} (B : Base G Γ mX10_sumWays 2 0 0) (E : Ends G Γ 0 0 (QJ r sv vi0 vl0)) (hW : WF sv ns) : ∀ (F : Nat) (x1 : Int32) (x2 : Int32) (x3 : Int32) (x4 : Int64) (x6 : Int32), fX10_sumWays_40 vi0 vl0 F x1 x2 x3 x4 x6 = some (r) → J G Γ 0 0 40 [(0, .ref (G.1 + 63)), (1, .int x1), (2, .int x2), (3, .int x3), (4, .long x4), (6, .int x6)] [] sv vi0 vl0 := by
  intro F
  induction F with
  | zero =>
    intro x1 x2 x3 x4 x6  h
    cases (show (none : Option (Int64)) = some (r) from h)
  | succ F ih =>
    intro x1 x2 x3 x4 x6  h
    rw [fX10_sumWays_40] at h
    refine j_iload B dX10_sumWays_40 5 rfl ?_
    refine j_bipush B dX10_sumWays_42 (v := 60) (by decide) ?_
    refine j_icmp_ge (tgt := 76) B dX10_sumWays_44 (by decide) (fun c => ?_) (fun c => ?_)
    · replace h := h_pos c h
      refine j_lload B dX10_sumWays_76 4 rfl ?_
      have e1 := Option.some.inj h
      subst e1
      exact j_lret B E rfl dX10_sumWays_78 (Nat.le_refl _) (Nat.le_refl _) ⟨rfl, rfl, rfl, rfl⟩
    · replace h := h_neg c h
      refine j_aload_n B dX10_sumWays_47 rfl 0 rfl ?_
      refine j_iload B dX10_sumWays_48 5 rfl ?_
      obtain ⟨r1, hr1, h⟩ := h_bind h
      refine j_cVI (rest := []) B (tX10_isWithout hW hr1) cls10 (wf_65 hW) jt_RX10_334 wi_X10_isWithout ws_X10_isWithout rfl (by decide) (Nat.le_refl _) (Nat.le_refl _) rfl (Nat.le_of_ble_eq_true rfl) dX10_sumWays_50 ?_
      refine j_if_ne (tgt := 70) B dX10_sumWays_53 (by decide) (fun c => ?_) (fun c => ?_)
      · replace h := h_pos (b2i_1 c) h
        refine j_locals [0, 1, 2, 3, 4, 5] rfl ?_
        exact tX10_sumWays_70 B E hW ih (x1) (x2) (x3) (x4) (x6)  h
      · replace h := h_neg (b2i_0 c) h
        refine j_lload B dX10_sumWays_56 4 rfl ?_
        refine j_aload_n B dX10_sumWays_58 rfl 0 rfl ?_
        refine j_iload_n B dX10_sumWays_59 rfl 1 rfl ?_
        refine j_iload_n B dX10_sumWays_60 rfl 2 rfl ?_
        refine j_iload_n B dX10_sumWays_61 rfl 3 rfl ?_
        refine j_iload B dX10_sumWays_62 5 rfl ?_
        obtain ⟨r2, hr2, h⟩ := h_bind h
        refine j_cVJ (rest := [.long x4]) B (tX10_waysBy hW hr2) cls10 (wf_65 hW) jt_RX10_337 wi_X10_waysBy ws_X10_waysBy rfl (by decide) (Nat.le_refl _) (Nat.le_refl _) rfl (Nat.le_of_ble_eq_true rfl) dX10_sumWays_64 ?_
        refine j_ladd B dX10_sumWays_67 ?_
        refine j_lstore (L' := [(4, .long (x4 + r2)), (0, .ref (G.1 + 63)), (1, .int x1), (2, .int x2), (3, .int x3), (6, .int x6)]) B dX10_sumWays_68 (by decide) rfl ?_
        refine j_locals [1, 2, 3, 4, 0, 5] rfl ?_
        exact tX10_sumWays_70 B E hW ih (x1) (x2) (x3) ((x4 + r2)) (x6)  h
def fX10_sumWays_34 (vi0 : VI) (vl0 : VL) (x1 : Int32) (x2 : Int32) (x3 : Int32) : Option (Int64) := fX10_sumWays_40 vi0 vl0 FU x1 x2 x3 0 0
theorem tX10_sumWays_34 {G : GT} {sv : SV} {vi0 : VI} {vl0 : VL} {ns : Nat} {Γ : CT} {r : Int64} (B : Base G Γ mX10_sumWays 2 0 0) (E : Ends G Γ 0 0 (QJ r sv vi0 vl0)) (hW : WF sv ns) : ∀ (x1 : Int32) (x2 : Int32) (x3 : Int32), fX10_sumWays_34 vi0 vl0 x1 x2 x3 = some (r) → J G Γ 0 0 34 [(0, .ref (G.1 + 63)), (1, .int x1), (2, .int x2), (3, .int x3)] [] sv vi0 vl0 := by
  intro x1 x2 x3  h
  unfold fX10_sumWays_34 at h
  refine j_lconst B dX10_sumWays_34 (v := 0) rfl ?_
  refine j_lstore (L' := [(4, .long 0), (0, .ref (G.1 + 63)), (1, .int x1), (2, .int x2), (3, .int x3)]) B dX10_sumWays_35 (by decide) rfl ?_
  refine j_iconst B dX10_sumWays_37 (v := 0) (by decide) ?_
  refine j_istore (L' := [(6, .int 0), (4, .long 0), (0, .ref (G.1 + 63)), (1, .int x1), (2, .int x2), (3, .int x3)]) B dX10_sumWays_38 (by decide) rfl ?_
  refine j_locals [2, 3, 4, 5, 1, 0] rfl ?_
  exact tX10_sumWays_40 B E hW FU (x1) (x2) (x3) (0) (0)  h
def fX10_sumWays_16 (vi0 : VI) (vl0 : VL) (x1 : Int32) (x2 : Int32) (x3 : Int32) : Option (Int64) := if x2 ≤ 0 then fX10_sumWays_34 vi0 vl0 x1 x2 x3 else if inb (x2 - 1) 13 = true then if x3 ≤ (vi0 83 (x2 - 1).toNatClampNeg) then fX10_sumWays_34 vi0 vl0 x1 x2 x3 else some (0) else none
theorem tX10_sumWays_16 {G : GT} {sv : SV} {vi0 : VI} {vl0 : VL} {ns : Nat} {Γ : CT} {r : Int64} (B : Base G Γ mX10_sumWays 2 0 0) (E : Ends G Γ 0 0 (QJ r sv vi0 vl0)) (hW : WF sv ns) : ∀ (x1 : Int32) (x2 : Int32) (x3 : Int32), fX10_sumWays_16 vi0 vl0 x1 x2 x3 = some (r) → J G Γ 0 0 16 [(0, .ref (G.1 + 63)), (1, .int x1), (2, .int x2), (3, .int x3)] [] sv vi0 vl0 := by
  intro x1 x2 x3  h
  unfold fX10_sumWays_16 at h
  refine j_iload_n B dX10_sumWays_16 rfl 2 rfl ?_
  refine j_if_le (tgt := 34) B dX10_sumWays_17 (by decide) (fun c => ?_) (fun c => ?_)
  · replace h := h_pos c h
    refine j_locals [0, 1, 2, 3] rfl ?_
    exact tX10_sumWays_34 B E hW (x1) (x2) (x3)  h
  · replace h := h_neg c h
    refine j_iload_n B dX10_sumWays_20 rfl 3 rfl ?_
    refine j_aload_n B dX10_sumWays_21 rfl 0 rfl ?_
    refine gf_RX10_71 B rfl (wf_65 hW) (wf_181 hW) dX10_sumWays_22 ?_
    refine j_iload_n B dX10_sumWays_25 rfl 2 rfl ?_
    refine j_iconst B dX10_sumWays_26 (v := 1) (by decide) ?_
    refine j_isub B dX10_sumWays_27 ?_
    obtain ⟨b3, h⟩ := h_inb h
    refine j_iald B ((wf_85 hW)) b3 dX10_sumWays_28 ?_
    refine j_icmp_le (tgt := 34) B dX10_sumWays_29 (by decide) (fun c => ?_) (fun c => ?_)
    · replace h := h_pos c h
      refine j_locals [0, 1, 2, 3] rfl ?_
      exact tX10_sumWays_34 B E hW (x1) (x2) (x3)  h
    · replace h := h_neg c h
      refine j_lconst B dX10_sumWays_32 (v := 0) rfl ?_
      have e1 := Option.some.inj h
      subst e1
      exact j_lret B E rfl dX10_sumWays_33 (Nat.le_refl _) (Nat.le_refl _) ⟨rfl, rfl, rfl, rfl⟩
def fX10_sumWays (x1 : Int32) (x2 : Int32) (x3 : Int32) (vi0 : VI) (vl0 : VL) : Option (Int64) := if (vi0 63 30) < x2 then some (0) else if x2 = 0 then if 0 < x3 then some (0) else fX10_sumWays_16 vi0 vl0 x1 x2 x3 else fX10_sumWays_16 vi0 vl0 x1 x2 x3
theorem tX10_sumWays {G : GT} {sv : SV} {vi0 : VI} {vl0 : VL} {ns : Nat} {x1 : Int32} {x2 : Int32} {x3 : Int32} {r : Int64} (hW : WF sv ns) (h : fX10_sumWays x1 x2 x3 vi0 vl0 = some (r)) : Call G mX10_sumWays 2 0 0 [.ref (G.1 + 63), .int x1, .int x2, .int x3] sv vi0 vl0 (QJ r sv vi0 vl0) := by
  refine j_mk (by decide +kernel) (Nat.le_of_ble_eq_true rfl) (fun Γ B E => ?_)
  show J G Γ 0 0 0 [(0, .ref (G.1 + 63)), (1, .int x1), (2, .int x2), (3, .int x3)] [] sv vi0 vl0
  unfold fX10_sumWays at h
  refine j_iload_n B dX10_sumWays_0 rfl 2 rfl ?_
  refine j_aload_n B dX10_sumWays_1 rfl 0 rfl ?_
  refine gf_RX10_173 B rfl (wf_65 hW) dX10_sumWays_2 ?_
  refine j_icmp_gt (tgt := 32) B dX10_sumWays_5 (by decide) (fun c => ?_) (fun c => ?_)
  · replace h := h_pos c h
    refine j_lconst B dX10_sumWays_32 (v := 0) rfl ?_
    have e1 := Option.some.inj h
    subst e1
    exact j_lret B E rfl dX10_sumWays_33 (Nat.le_refl _) (Nat.le_refl _) ⟨rfl, rfl, rfl, rfl⟩
  · replace h := h_neg c h
    refine j_iload_n B dX10_sumWays_8 rfl 2 rfl ?_
    refine j_if_ne (tgt := 16) B dX10_sumWays_9 (by decide) (fun c => ?_) (fun c => ?_)
    · replace h := h_neg c h
      refine j_locals [0, 1, 2, 3] rfl ?_
      exact tX10_sumWays_16 B E hW (x1) (x2) (x3)  h
    · replace h := h_pos c h
      refine j_iload_n B dX10_sumWays_12 rfl 3 rfl ?_
      refine j_if_gt (tgt := 32) B dX10_sumWays_13 (by decide) (fun c => ?_) (fun c => ?_)
      · replace h := h_pos c h
        refine j_lconst B dX10_sumWays_32 (v := 0) rfl ?_
        have e1 := Option.some.inj h
        subst e1
        exact j_lret B E rfl dX10_sumWays_33 (Nat.le_refl _) (Nat.le_refl _) ⟨rfl, rfl, rfl, rfl⟩
      · replace h := h_neg c h
        refine j_locals [0, 1, 2, 3] rfl ?_
        exact tX10_sumWays_16 B E hW (x1) (x2) (x3)  h
