def fX10_heldTo (x0 : Int32)  : Option (Int32) := if x0 ≤ 99 then some (x0) else some (99)
theorem tX10_heldTo {G : GT} {sv : SV} {vi0 : VI} {vl0 : VL} {x0 : Int32} {r : Int32} (h : fX10_heldTo x0 = some (r)) : Call G mX10_heldTo 0 0 0 [.int x0] sv vi0 vl0 (QI r sv vi0 vl0) := by
  refine j_mk (by decide +kernel) (Nat.le_of_ble_eq_true rfl) (fun Γ B E => ?_)
  show J G Γ 0 0 0 [(0, .int x0)] [] sv vi0 vl0
  unfold fX10_heldTo at h
  refine j_iload_n B dX10_heldTo_0 rfl 0 rfl ?_
  refine j_bipush B dX10_heldTo_1 (v := 99) (by decide) ?_
  refine j_icmp_le (tgt := 11) B dX10_heldTo_3 (by decide) (fun c => ?_) (fun c => ?_)
  · replace h := h_pos c h
    refine j_iload_n B dX10_heldTo_11 rfl 0 rfl ?_
    have e1 := Option.some.inj h
    subst e1
    exact j_iret B E rfl dX10_heldTo_12 (Nat.le_refl _) (Nat.le_refl _) ⟨rfl, rfl, rfl, rfl⟩
  · replace h := h_neg c h
    refine j_bipush B dX10_heldTo_6 (v := 99) (by decide) ?_
    refine j_goto (tgt := 12) B dX10_heldTo_8 (by decide) ?_
    have e1 := Option.some.inj h
    subst e1
    exact j_iret B E rfl dX10_heldTo_12 (Nat.le_refl _) (Nat.le_refl _) ⟨rfl, rfl, rfl, rfl⟩
def fX10_pressLowest_24  : Nat → Int32 → VI → Option (VI)
  | 0, _, _ => none
  | F + 1, x1, vi => if ((vi 63 30) - 1) ≤ x1 then some ((j_up vi 63 30 ((vi 63 30) - 1))) else if inb (x1 + 1) 13 = true then if inb x1 13 = true then if inb (x1 + 1) 13 = true then if inb x1 13 = true then fX10_pressLowest_24  F (x1 + 1) (j_up (j_up vi 82 x1.toNatClampNeg (vi 82 (x1 + 1).toNatClampNeg)) 83 x1.toNatClampNeg ((j_up vi 82 x1.toNatClampNeg (vi 82 (x1 + 1).toNatClampNeg)) 83 (x1 + 1).toNatClampNeg)) else none else none else none else none
theorem tX10_pressLowest_24 {G : GT} {sv : SV} {vl0 : VL} {ns : Nat} {Γ : CT} {vi' : VI} (B : Base G Γ mX10_pressLowest 1 0 0) (E : Ends G Γ 0 0 (QV sv vi' vl0)) (hW : WF sv ns) : ∀ (F : Nat) (x1 : Int32) (vi : VI), fX10_pressLowest_24  F x1 vi = some (vi') → J G Γ 0 0 24 [(0, .ref (G.1 + 63)), (1, .int x1)] [] sv vi vl0 := by
  intro F
  induction F with
  | zero =>
    intro x1 vi  h
    cases (show (none : Option (VI)) = some (vi') from h)
  | succ F ih =>
    intro x1 vi  h
    rw [fX10_pressLowest_24] at h
    refine j_iload_n B dX10_pressLowest_24 rfl 1 rfl ?_
    refine j_aload_n B dX10_pressLowest_25 rfl 0 rfl ?_
    refine gf_RX10_173 B rfl (wf_65 hW) dX10_pressLowest_26 ?_
    refine j_iconst B dX10_pressLowest_29 (v := 1) (by decide) ?_
    refine j_isub B dX10_pressLowest_30 ?_
    refine j_icmp_ge (tgt := 68) B dX10_pressLowest_31 (by decide) (fun c => ?_) (fun c => ?_)
    · replace h := h_pos c h
      refine j_aload_n B dX10_pressLowest_68 rfl 0 rfl ?_
      refine j_dup B dX10_pressLowest_69 rfl ?_
      refine gf_RX10_173 B rfl (wf_65 hW) dX10_pressLowest_70 ?_
      refine j_iconst B dX10_pressLowest_73 (v := 1) (by decide) ?_
      refine j_isub B dX10_pressLowest_74 ?_
      refine pf_RX10_173 B rfl (wf_65 hW) dX10_pressLowest_75 ?_
      have e1 := Option.some.inj h
      subst e1
      exact j_vret B E rfl dX10_pressLowest_78 (Nat.le_refl _) (Nat.le_refl _) ⟨rfl, rfl, rfl, rfl⟩
    · replace h := h_neg c h
      refine j_aload_n B dX10_pressLowest_34 rfl 0 rfl ?_
      refine gf_RX10_68 B rfl (wf_65 hW) (wf_180 hW) dX10_pressLowest_35 ?_
      refine j_iload_n B dX10_pressLowest_38 rfl 1 rfl ?_
      refine j_aload_n B dX10_pressLowest_39 rfl 0 rfl ?_
      refine gf_RX10_68 B rfl (wf_65 hW) (wf_180 hW) dX10_pressLowest_40 ?_
      refine j_iload_n B dX10_pressLowest_43 rfl 1 rfl ?_
      refine j_iconst B dX10_pressLowest_44 (v := 1) (by decide) ?_
      refine j_iadd B dX10_pressLowest_45 ?_
      obtain ⟨b2, h⟩ := h_inb h
      refine j_iald B ((wf_84 hW)) b2 dX10_pressLowest_46 ?_
      obtain ⟨b3, h⟩ := h_inb h
      refine j_iast B ((wf_84 hW)) b3 dX10_pressLowest_47 ?_
      refine j_aload_n B dX10_pressLowest_48 rfl 0 rfl ?_
      refine gf_RX10_71 B rfl (wf_65 hW) (wf_181 hW) dX10_pressLowest_49 ?_
      refine j_iload_n B dX10_pressLowest_52 rfl 1 rfl ?_
      refine j_aload_n B dX10_pressLowest_53 rfl 0 rfl ?_
      refine gf_RX10_71 B rfl (wf_65 hW) (wf_181 hW) dX10_pressLowest_54 ?_
      refine j_iload_n B dX10_pressLowest_57 rfl 1 rfl ?_
      refine j_iconst B dX10_pressLowest_58 (v := 1) (by decide) ?_
      refine j_iadd B dX10_pressLowest_59 ?_
      obtain ⟨b4, h⟩ := h_inb h
      refine j_iald B ((wf_85 hW)) b4 dX10_pressLowest_60 ?_
      obtain ⟨b5, h⟩ := h_inb h
      refine j_iast B ((wf_85 hW)) b5 dX10_pressLowest_61 ?_
      refine j_iinc (v := (x1 + 1)) (L' := [(1, .int (x1 + 1)), (0, .ref (G.1 + 63))]) B dX10_pressLowest_62 1 rfl rfl (by decide) rfl ?_
      refine j_goto (tgt := 24) B dX10_pressLowest_65 (by decide) ?_
      refine j_locals [1, 0] rfl ?_
      exact ih ((x1 + 1)) ((j_up (j_up vi 82 x1.toNatClampNeg (vi 82 (x1 + 1).toNatClampNeg)) 83 x1.toNatClampNeg ((j_up vi 82 x1.toNatClampNeg (vi 82 (x1 + 1).toNatClampNeg)) 83 (x1 + 1).toNatClampNeg)))  h
def fX10_pressLowest  (vi0 : VI) : Option (VI) := (fX10_heldTo ((vi0 83 (0 : Int32).toNatClampNeg) + (vi0 83 (1 : Int32).toNatClampNeg))).bind fun r1 => fX10_pressLowest_24  FU 1 (j_up vi0 83 (0 : Int32).toNatClampNeg r1)
theorem tX10_pressLowest {G : GT} {sv : SV} {vi0 : VI} {vl0 : VL} {ns : Nat} {vi' : VI} (hW : WF sv ns) (h : fX10_pressLowest vi0 = some (vi')) : Call G mX10_pressLowest 1 0 0 [.ref (G.1 + 63)] sv vi0 vl0 (QV sv vi' vl0) := by
  refine j_mk (by decide +kernel) (Nat.le_of_ble_eq_true rfl) (fun Γ B E => ?_)
  show J G Γ 0 0 0 [(0, .ref (G.1 + 63))] [] sv vi0 vl0
  unfold fX10_pressLowest at h
  refine j_aload_n B dX10_pressLowest_0 rfl 0 rfl ?_
  refine gf_RX10_71 B rfl (wf_65 hW) (wf_181 hW) dX10_pressLowest_1 ?_
  refine j_iconst B dX10_pressLowest_4 (v := 0) (by decide) ?_
  refine j_aload_n B dX10_pressLowest_5 rfl 0 rfl ?_
  refine gf_RX10_71 B rfl (wf_65 hW) (wf_181 hW) dX10_pressLowest_6 ?_
  refine j_iconst B dX10_pressLowest_9 (v := 0) (by decide) ?_
  refine j_iald B ((wf_85 hW)) (vp_in_iff.mpr ⟨by decide, by decide⟩) dX10_pressLowest_10 ?_
  refine j_aload_n B dX10_pressLowest_11 rfl 0 rfl ?_
  refine gf_RX10_71 B rfl (wf_65 hW) (wf_181 hW) dX10_pressLowest_12 ?_
  refine j_iconst B dX10_pressLowest_15 (v := 1) (by decide) ?_
  refine j_iald B ((wf_85 hW)) (vp_in_iff.mpr ⟨by decide, by decide⟩) dX10_pressLowest_16 ?_
  refine j_iadd B dX10_pressLowest_17 ?_
  obtain ⟨r1, hr1, h⟩ := h_bind h
  refine j_cSI (rest := [.int 0, .ref (G.1 + 83)]) B (tX10_heldTo hr1) jt_RX10_266 wst_X10_heldTo rfl (by decide) (Nat.le_refl _) (Nat.le_refl _) rfl (Nat.le_of_ble_eq_true rfl) dX10_pressLowest_18 ?_
  refine j_iast B ((wf_85 hW)) (vp_in_iff.mpr ⟨by decide, by decide⟩) dX10_pressLowest_21 ?_
  refine j_iconst B dX10_pressLowest_22 (v := 1) (by decide) ?_
  refine j_istore_n (L' := [(1, .int 1), (0, .ref (G.1 + 63))]) B dX10_pressLowest_23 rfl (by decide) rfl ?_
  refine j_locals [1, 0] rfl ?_
  exact tX10_pressLowest_24 B E hW FU (1) ((j_up vi0 83 (0 : Int32).toNatClampNeg r1))  h
def fX10_goLook_85  (x1 : Int32) (x3 : Int32) (vi : VI) : Option (Int32 × VI) := if inb (vi 63 30) 13 = true then if inb ((j_up vi 82 (vi 63 30).toNatClampNeg x1) 63 30) 13 = true then some (x3, (j_up (j_up (j_up vi 82 (vi 63 30).toNatClampNeg x1) 83 ((j_up vi 82 (vi 63 30).toNatClampNeg x1) 63 30).toNatClampNeg x3) 63 30 (((j_up (j_up vi 82 (vi 63 30).toNatClampNeg x1) 83 ((j_up vi 82 (vi 63 30).toNatClampNeg x1) 63 30).toNatClampNeg x3) 63 30) + 1))) else none else none
theorem tX10_goLook_85 {G : GT} {sv : SV} {vl0 : VL} {ns : Nat} {Γ : CT} {r : Int32} {vi' : VI} (B : Base G Γ mX10_goLook 4 0 0) (E : Ends G Γ 0 0 (QI r sv vi' vl0)) (hW : WF sv ns) : ∀ (x1 : Int32) (x3 : Int32) (vi : VI), fX10_goLook_85  x1 x3 vi = some (r, vi') → J G Γ 0 0 85 [(0, .ref (G.1 + 63)), (1, .int x1), (3, .int x3)] [] sv vi vl0 := by
  intro x1 x3 vi  h
  unfold fX10_goLook_85 at h
  refine j_aload_n B dX10_goLook_85 rfl 0 rfl ?_
  refine gf_RX10_68 B rfl (wf_65 hW) (wf_180 hW) dX10_goLook_86 ?_
  refine j_aload_n B dX10_goLook_89 rfl 0 rfl ?_
  refine gf_RX10_173 B rfl (wf_65 hW) dX10_goLook_90 ?_
  refine j_iload_n B dX10_goLook_93 rfl 1 rfl ?_
  obtain ⟨b2, h⟩ := h_inb h
  refine j_iast B ((wf_84 hW)) b2 dX10_goLook_94 ?_
  refine j_aload_n B dX10_goLook_95 rfl 0 rfl ?_
  refine gf_RX10_71 B rfl (wf_65 hW) (wf_181 hW) dX10_goLook_96 ?_
  refine j_aload_n B dX10_goLook_99 rfl 0 rfl ?_
  refine gf_RX10_173 B rfl (wf_65 hW) dX10_goLook_100 ?_
  refine j_iload_n B dX10_goLook_103 rfl 2 rfl ?_
  obtain ⟨b3, h⟩ := h_inb h
  refine j_iast B ((wf_85 hW)) b3 dX10_goLook_104 ?_
  refine j_aload_n B dX10_goLook_105 rfl 0 rfl ?_
  refine j_dup B dX10_goLook_106 rfl ?_
  refine gf_RX10_173 B rfl (wf_65 hW) dX10_goLook_107 ?_
  refine j_iconst B dX10_goLook_110 (v := 1) (by decide) ?_
  refine j_iadd B dX10_goLook_111 ?_
  refine pf_RX10_173 B rfl (wf_65 hW) dX10_goLook_112 ?_
  refine j_iload_n B dX10_goLook_115 rfl 2 rfl ?_
  obtain ⟨e1, e2⟩ := Prod.mk.inj (Option.some.inj h)
  subst e1
  subst e2
  exact j_iret B E rfl dX10_goLook_116 (Nat.le_refl _) (Nat.le_refl _) ⟨rfl, rfl, rfl, rfl⟩
def fX10_goLook_72  (x1 : Int32) (x3 : Int32) (vi : VI) : Option (Int32 × VI) := if (vi 63 30) = 12 then (fX10_pressLowest vi).bind fun r4 => fX10_goLook_85  x1 x3 r4 else fX10_goLook_85  x1 x3 vi
theorem tX10_goLook_72 {G : GT} {sv : SV} {vl0 : VL} {ns : Nat} {Γ : CT} {r : Int32} {vi' : VI} (B : Base G Γ mX10_goLook 4 0 0) (E : Ends G Γ 0 0 (QI r sv vi' vl0)) (hW : WF sv ns) : ∀ (x1 : Int32) (x3 : Int32) (vi : VI), fX10_goLook_72  x1 x3 vi = some (r, vi') → J G Γ 0 0 72 [(0, .ref (G.1 + 63)), (1, .int x1), (3, .int x3)] [] sv vi vl0 := by
  intro x1 x3 vi  h
  unfold fX10_goLook_72 at h
  refine j_aload_n B dX10_goLook_72 rfl 0 rfl ?_
  refine gf_RX10_173 B rfl (wf_65 hW) dX10_goLook_73 ?_
  refine j_bipush B dX10_goLook_76 (v := 12) (by decide) ?_
  refine j_icmp_ne (tgt := 85) B dX10_goLook_78 (by decide) (fun c => ?_) (fun c => ?_)
  · replace h := h_neg c h
    refine j_locals [0, 1, 2] rfl ?_
    exact tX10_goLook_85 B E hW (x1) (x3) (vi)  h
  · replace h := h_pos c h
    refine j_aload_n B dX10_goLook_81 rfl 0 rfl ?_
    obtain ⟨r4, hr4, h⟩ := h_bind h
    refine j_cVV (rest := []) B (tX10_pressLowest hW hr4) cls10 (wf_65 hW) jt_RX10_269 wi_X10_pressLowest ws_X10_pressLowest rfl (by decide) (Nat.le_refl _) (Nat.le_refl _) rfl (Nat.le_of_ble_eq_true rfl) dX10_goLook_82 ?_
    refine j_locals [0, 1, 2] rfl ?_
    exact tX10_goLook_85 B E hW (x1) (x3) (r4)  h
def fX10_goLook (x1 : Int32) (x2 : Int32) (vi0 : VI) : Option (Int32 × VI) := (fX10_laysBy (vi0 63 29) x1 x2 (vi0 63 30) vi0).bind fun r1 => if r1.1 = 0 then some (0, r1.2) else if (r1.2 63 30) ≤ 0 then fX10_goLook_72  x1 r1.1 r1.2 else if inb ((r1.2 63 30) - 1) 13 = true then if (r1.2 82 ((r1.2 63 30) - 1).toNatClampNeg) = x1 then if inb ((r1.2 63 30) - 1) 13 = true then (fX10_heldTo ((r1.2 83 ((r1.2 63 30) - 1).toNatClampNeg) + r1.1)).bind fun r7 => if inb ((r1.2 63 30) - 1) 13 = true then some (r1.1, (j_up r1.2 83 ((r1.2 63 30) - 1).toNatClampNeg r7)) else none else none else fX10_goLook_72  x1 r1.1 r1.2 else none
theorem tX10_goLook {G : GT} {sv : SV} {vi0 : VI} {vl0 : VL} {ns : Nat} {x1 : Int32} {x2 : Int32} {r : Int32} {vi' : VI} (hW : WF sv ns) (h : fX10_goLook x1 x2 vi0 = some (r, vi')) : Call G mX10_goLook 4 0 0 [.ref (G.1 + 63), .int x1, .int x2] sv vi0 vl0 (QI r sv vi' vl0) := by
  refine j_mk (by decide +kernel) (Nat.le_of_ble_eq_true rfl) (fun Γ B E => ?_)
  show J G Γ 0 0 0 [(0, .ref (G.1 + 63)), (1, .int x1), (2, .int x2)] [] sv vi0 vl0
  unfold fX10_goLook at h
  refine j_aload_n B dX10_goLook_0 rfl 0 rfl ?_
  refine j_aload_n B dX10_goLook_1 rfl 0 rfl ?_
  refine gf_RX10_263 B rfl (wf_65 hW) dX10_goLook_2 ?_
  refine j_iload_n B dX10_goLook_5 rfl 1 rfl ?_
  refine j_iload_n B dX10_goLook_6 rfl 2 rfl ?_
  refine j_aload_n B dX10_goLook_7 rfl 0 rfl ?_
  refine gf_RX10_173 B rfl (wf_65 hW) dX10_goLook_8 ?_
  obtain ⟨r1, hr1, h⟩ := h_bind h
  refine j_cVI (rest := []) B (tX10_laysBy hW hr1) cls10 (wf_65 hW) jt_RX10_259 wi_X10_laysBy ws_X10_laysBy rfl (by decide) (Nat.le_refl _) (Nat.le_refl _) rfl (Nat.le_of_ble_eq_true rfl) dX10_goLook_11 ?_
  refine j_istore_n (L' := [(3, .int r1.1), (0, .ref (G.1 + 63)), (1, .int x1), (2, .int x2)]) B dX10_goLook_14 rfl (by decide) rfl ?_
  refine j_iload_n B dX10_goLook_15 rfl 0 rfl ?_
  refine j_if_ne (tgt := 21) B dX10_goLook_16 (by decide) (fun c => ?_) (fun c => ?_)
  · replace h := h_neg c h
    refine j_aload_n B dX10_goLook_21 rfl 1 rfl ?_
    refine gf_RX10_173 B rfl (wf_65 hW) dX10_goLook_22 ?_
    refine j_if_le (tgt := 72) B dX10_goLook_25 (by decide) (fun c => ?_) (fun c => ?_)
    · replace h := h_pos c h
      refine j_locals [1, 2, 0] rfl ?_
      exact tX10_goLook_72 B E hW (x1) (r1.1) (r1.2)  h
    · replace h := h_neg c h
      refine j_aload_n B dX10_goLook_28 rfl 1 rfl ?_
      refine gf_RX10_68 B rfl (wf_65 hW) (wf_180 hW) dX10_goLook_29 ?_
      refine j_aload_n B dX10_goLook_32 rfl 1 rfl ?_
      refine gf_RX10_173 B rfl (wf_65 hW) dX10_goLook_33 ?_
      refine j_iconst B dX10_goLook_36 (v := 1) (by decide) ?_
      refine j_isub B dX10_goLook_37 ?_
      obtain ⟨b5, h⟩ := h_inb h
      refine j_iald B ((wf_84 hW)) b5 dX10_goLook_38 ?_
      refine j_iload_n B dX10_goLook_39 rfl 2 rfl ?_
      refine j_icmp_ne (tgt := 72) B dX10_goLook_40 (by decide) (fun c => ?_) (fun c => ?_)
      · replace h := h_neg c h
        refine j_locals [1, 2, 0] rfl ?_
        exact tX10_goLook_72 B E hW (x1) (r1.1) (r1.2)  h
      · replace h := h_pos c h
        refine j_aload_n B dX10_goLook_43 rfl 1 rfl ?_
        refine gf_RX10_71 B rfl (wf_65 hW) (wf_181 hW) dX10_goLook_44 ?_
        refine j_aload_n B dX10_goLook_47 rfl 1 rfl ?_
        refine gf_RX10_173 B rfl (wf_65 hW) dX10_goLook_48 ?_
        refine j_iconst B dX10_goLook_51 (v := 1) (by decide) ?_
        refine j_isub B dX10_goLook_52 ?_
        refine j_aload_n B dX10_goLook_53 rfl 1 rfl ?_
        refine gf_RX10_71 B rfl (wf_65 hW) (wf_181 hW) dX10_goLook_54 ?_
        refine j_aload_n B dX10_goLook_57 rfl 1 rfl ?_
        refine gf_RX10_173 B rfl (wf_65 hW) dX10_goLook_58 ?_
        refine j_iconst B dX10_goLook_61 (v := 1) (by decide) ?_
        refine j_isub B dX10_goLook_62 ?_
        obtain ⟨b6, h⟩ := h_inb h
        refine j_iald B ((wf_85 hW)) b6 dX10_goLook_63 ?_
        refine j_iload_n B dX10_goLook_64 rfl 0 rfl ?_
        refine j_iadd B dX10_goLook_65 ?_
        obtain ⟨r7, hr7, h⟩ := h_bind h
        refine j_cSI (rest := [.int ((r1.2 63 30) - 1), .ref (G.1 + 83)]) B (tX10_heldTo hr7) jt_RX10_266 wst_X10_heldTo rfl (by decide) (Nat.le_refl _) (Nat.le_refl _) rfl (Nat.le_of_ble_eq_true rfl) dX10_goLook_66 ?_
        obtain ⟨b8, h⟩ := h_inb h
        refine j_iast B ((wf_85 hW)) b8 dX10_goLook_69 ?_
        refine j_iload_n B dX10_goLook_70 rfl 0 rfl ?_
        obtain ⟨e1, e2⟩ := Prod.mk.inj (Option.some.inj h)
        subst e1
        subst e2
        exact j_iret B E rfl dX10_goLook_71 (Nat.le_refl _) (Nat.le_refl _) ⟨rfl, rfl, rfl, rfl⟩
  · replace h := h_pos c h
    refine j_iconst B dX10_goLook_19 (v := 0) (by decide) ?_
    obtain ⟨e1, e2⟩ := Prod.mk.inj (Option.some.inj h)
    subst e1
    subst e2
    exact j_iret B E rfl dX10_goLook_20 (Nat.le_refl _) (Nat.le_refl _) ⟨rfl, rfl, rfl, rfl⟩
def fX10_thickerBy_37  (x1 : Int32) (x2 : Int32) (s0 : Int32) (vi : VI) : Option (Int32 × VI) := (fX10_goLook x1 x2 vi).bind fun r1 => if r1.1 = 0 then some (0, r1.2) else if inb ((r1.2 63 30) - 1) 13 = true then some (((r1.2 83 ((r1.2 63 30) - 1).toNatClampNeg) - s0), r1.2) else none
theorem tX10_thickerBy_37 {G : GT} {sv : SV} {vl0 : VL} {ns : Nat} {Γ : CT} {r : Int32} {vi' : VI} (B : Base G Γ mX10_thickerBy 5 0 0) (E : Ends G Γ 0 0 (QI r sv vi' vl0)) (hW : WF sv ns) : ∀ (x1 : Int32) (x2 : Int32) (s0 : Int32) (vi : VI), fX10_thickerBy_37  x1 x2 s0 vi = some (r, vi') → J G Γ 0 0 37 [(0, .ref (G.1 + 63)), (1, .int x1), (2, .int x2)] [.int s0] sv vi vl0 := by
  intro x1 x2 s0 vi  h
  unfold fX10_thickerBy_37 at h
  refine j_istore_n (L' := [(3, .int s0), (0, .ref (G.1 + 63)), (1, .int x1), (2, .int x2)]) B dX10_thickerBy_37 rfl (by decide) rfl ?_
  refine j_aload_n B dX10_thickerBy_38 rfl 1 rfl ?_
  refine j_iload_n B dX10_thickerBy_39 rfl 2 rfl ?_
  refine j_iload_n B dX10_thickerBy_40 rfl 3 rfl ?_
  obtain ⟨r1, hr1, h⟩ := h_bind h
  refine j_cVI (rest := []) B (tX10_goLook hW hr1) cls10 (wf_65 hW) jt_RX10_272 wi_X10_goLook ws_X10_goLook rfl (by decide) (Nat.le_refl _) (Nat.le_refl _) rfl (Nat.le_of_ble_eq_true rfl) dX10_thickerBy_41 ?_
  refine j_if_ne (tgt := 51) B dX10_thickerBy_44 (by decide) (fun c => ?_) (fun c => ?_)
  · replace h := h_neg c h
    refine j_aload_n B dX10_thickerBy_51 rfl 1 rfl ?_
    refine gf_RX10_71 B rfl (wf_65 hW) (wf_181 hW) dX10_thickerBy_52 ?_
    refine j_aload_n B dX10_thickerBy_55 rfl 1 rfl ?_
    refine gf_RX10_173 B rfl (wf_65 hW) dX10_thickerBy_56 ?_
    refine j_iconst B dX10_thickerBy_59 (v := 1) (by decide) ?_
    refine j_isub B dX10_thickerBy_60 ?_
    obtain ⟨b2, h⟩ := h_inb h
    refine j_iald B ((wf_85 hW)) b2 dX10_thickerBy_61 ?_
    refine j_iload_n B dX10_thickerBy_62 rfl 0 rfl ?_
    refine j_isub B dX10_thickerBy_63 ?_
    obtain ⟨e1, e2⟩ := Prod.mk.inj (Option.some.inj h)
    subst e1
    subst e2
    exact j_iret B E rfl dX10_thickerBy_64 (Nat.le_refl _) (Nat.le_refl _) ⟨rfl, rfl, rfl, rfl⟩
  · replace h := h_pos c h
    refine j_iconst B dX10_thickerBy_47 (v := 0) (by decide) ?_
    refine j_goto (tgt := 64) B dX10_thickerBy_48 (by decide) ?_
    obtain ⟨e1, e2⟩ := Prod.mk.inj (Option.some.inj h)
    subst e1
    subst e2
    exact j_iret B E rfl dX10_thickerBy_64 (Nat.le_refl _) (Nat.le_refl _) ⟨rfl, rfl, rfl, rfl⟩
def fX10_thickerBy_36  (x1 : Int32) (x2 : Int32) (vi : VI) : Option (Int32 × VI) := fX10_thickerBy_37  x1 x2 0 vi
theorem tX10_thickerBy_36 {G : GT} {sv : SV} {vl0 : VL} {ns : Nat} {Γ : CT} {r : Int32} {vi' : VI} (B : Base G Γ mX10_thickerBy 5 0 0) (E : Ends G Γ 0 0 (QI r sv vi' vl0)) (hW : WF sv ns) : ∀ (x1 : Int32) (x2 : Int32) (vi : VI), fX10_thickerBy_36  x1 x2 vi = some (r, vi') → J G Γ 0 0 36 [(0, .ref (G.1 + 63)), (1, .int x1), (2, .int x2)] [] sv vi vl0 := by
  intro x1 x2 vi  h
  unfold fX10_thickerBy_36 at h
  refine j_iconst B dX10_thickerBy_36 (v := 0) (by decide) ?_
  refine j_locals [0, 1, 2] rfl ?_
  exact tX10_thickerBy_37 B E hW (x1) (x2) (0) (vi)  h
def fX10_thickerBy (x1 : Int32) (x2 : Int32) (vi0 : VI) : Option (Int32 × VI) := if (vi0 63 30) ≤ 0 then fX10_thickerBy_36  x1 x2 vi0 else if inb ((vi0 63 30) - 1) 13 = true then if (vi0 82 ((vi0 63 30) - 1).toNatClampNeg) = x1 then if inb ((vi0 63 30) - 1) 13 = true then fX10_thickerBy_37  x1 x2 (vi0 83 ((vi0 63 30) - 1).toNatClampNeg) vi0 else none else fX10_thickerBy_36  x1 x2 vi0 else none
theorem tX10_thickerBy {G : GT} {sv : SV} {vi0 : VI} {vl0 : VL} {ns : Nat} {x1 : Int32} {x2 : Int32} {r : Int32} {vi' : VI} (hW : WF sv ns) (h : fX10_thickerBy x1 x2 vi0 = some (r, vi')) : Call G mX10_thickerBy 5 0 0 [.ref (G.1 + 63), .int x1, .int x2] sv vi0 vl0 (QI r sv vi' vl0) := by
  refine j_mk (by decide +kernel) (Nat.le_of_ble_eq_true rfl) (fun Γ B E => ?_)
  show J G Γ 0 0 0 [(0, .ref (G.1 + 63)), (1, .int x1), (2, .int x2)] [] sv vi0 vl0
  unfold fX10_thickerBy at h
  refine j_aload_n B dX10_thickerBy_0 rfl 0 rfl ?_
  refine gf_RX10_173 B rfl (wf_65 hW) dX10_thickerBy_1 ?_
  refine j_if_le (tgt := 36) B dX10_thickerBy_4 (by decide) (fun c => ?_) (fun c => ?_)
  · replace h := h_pos c h
    refine j_locals [0, 1, 2] rfl ?_
    exact tX10_thickerBy_36 B E hW (x1) (x2) (vi0)  h
  · replace h := h_neg c h
    refine j_aload_n B dX10_thickerBy_7 rfl 0 rfl ?_
    refine gf_RX10_68 B rfl (wf_65 hW) (wf_180 hW) dX10_thickerBy_8 ?_
    refine j_aload_n B dX10_thickerBy_11 rfl 0 rfl ?_
    refine gf_RX10_173 B rfl (wf_65 hW) dX10_thickerBy_12 ?_
    refine j_iconst B dX10_thickerBy_15 (v := 1) (by decide) ?_
    refine j_isub B dX10_thickerBy_16 ?_
    obtain ⟨b3, h⟩ := h_inb h
    refine j_iald B ((wf_84 hW)) b3 dX10_thickerBy_17 ?_
    refine j_iload_n B dX10_thickerBy_18 rfl 1 rfl ?_
    refine j_icmp_ne (tgt := 36) B dX10_thickerBy_19 (by decide) (fun c => ?_) (fun c => ?_)
    · replace h := h_neg c h
      refine j_locals [0, 1, 2] rfl ?_
      exact tX10_thickerBy_36 B E hW (x1) (x2) (vi0)  h
    · replace h := h_pos c h
      refine j_aload_n B dX10_thickerBy_22 rfl 0 rfl ?_
      refine gf_RX10_71 B rfl (wf_65 hW) (wf_181 hW) dX10_thickerBy_23 ?_
      refine j_aload_n B dX10_thickerBy_26 rfl 0 rfl ?_
      refine gf_RX10_173 B rfl (wf_65 hW) dX10_thickerBy_27 ?_
      refine j_iconst B dX10_thickerBy_30 (v := 1) (by decide) ?_
      refine j_isub B dX10_thickerBy_31 ?_
      obtain ⟨b4, h⟩ := h_inb h
      refine j_iald B ((wf_85 hW)) b4 dX10_thickerBy_32 ?_
      refine j_goto (tgt := 37) B dX10_thickerBy_33 (by decide) ?_
      refine j_locals [0, 1, 2] rfl ?_
      exact tX10_thickerBy_37 B E hW (x1) (x2) ((vi0 83 ((vi0 63 30) - 1).toNatClampNeg)) (vi0)  h
def fX10_thickBy_31 (vi0 : VI) (k4 : Int32 → Int32 → Int32 → Option (Int32)) (x1 : Int32) (x2 : Int32) (x3 : Int32) : Option (Int32) := k4 x1 x2 (x3 + 1)
theorem tX10_thickBy_31 {G : GT} {sv : SV} {vi0 : VI} {vl0 : VL} {ns : Nat} {Γ : CT} {r : Int32} {k4 : Int32 → Int32 → Int32 → Option (Int32)} (B : Base G Γ mX10_thickBy 0 0 0) (E : Ends G Γ 0 0 (QI r sv vi0 vl0)) (hW : WF sv ns) (hk4 : ∀ (x1 : Int32) (x2 : Int32) (x3 : Int32), k4 x1 x2 x3 = some (r) → J G Γ 0 0 4 [(0, .ref (G.1 + 63)), (1, .int x1), (2, .int x2), (3, .int x3)] [] sv vi0 vl0) : ∀ (x1 : Int32) (x2 : Int32) (x3 : Int32), fX10_thickBy_31 vi0 k4 x1 x2 x3 = some (r) → J G Γ 0 0 31 [(0, .ref (G.1 + 63)), (1, .int x1), (2, .int x2), (3, .int x3)] [] sv vi0 vl0 := by
  intro x1 x2 x3  h
  unfold fX10_thickBy_31 at h
  refine j_iinc (v := (x3 + 1)) (L' := [(3, .int (x3 + 1)), (0, .ref (G.1 + 63)), (1, .int x1), (2, .int x2)]) B dX10_thickBy_31 3 rfl rfl (by decide) rfl ?_
  refine j_goto (tgt := 4) B dX10_thickBy_34 (by decide) ?_
  refine j_locals [1, 2, 3, 0] rfl ?_
  exact hk4 (x1) (x2) ((x3 + 1))  h
def fX10_thickBy_4 (vi0 : VI) : Nat → Int32 → Int32 → Int32 → Option (Int32)
  | 0, _, _, _ => none
  | F + 1, x1, x2, x3 => if (vi0 63 30) ≤ x3 then some (x2) else if inb x3 13 = true then if (vi0 82 x3.toNatClampNeg) = x1 then if inb x3 13 = true then fX10_thickBy_31 vi0 (fX10_thickBy_4 vi0 F) x1 (x2 + (vi0 83 x3.toNatClampNeg)) x3 else none else fX10_thickBy_31 vi0 (fX10_thickBy_4 vi0 F) x1 x2 x3 else none
theorem tX10_thickBy_4 {G : GT} {sv : SV} {vi0 : VI} {vl0 : VL} {ns : Nat} {Γ : CT} {r : Int32} (B : Base G Γ mX10_thickBy 0 0 0) (E : Ends G Γ 0 0 (QI r sv vi0 vl0)) (hW : WF sv ns) : ∀ (F : Nat) (x1 : Int32) (x2 : Int32) (x3 : Int32), fX10_thickBy_4 vi0 F x1 x2 x3 = some (r) → J G Γ 0 0 4 [(0, .ref (G.1 + 63)), (1, .int x1), (2, .int x2), (3, .int x3)] [] sv vi0 vl0 := by
  intro F
  induction F with
  | zero =>
    intro x1 x2 x3  h
    cases (show (none : Option (Int32)) = some (r) from h)
  | succ F ih =>
    intro x1 x2 x3  h
    rw [fX10_thickBy_4] at h
    refine j_iload_n B dX10_thickBy_4 rfl 3 rfl ?_
    refine j_aload_n B dX10_thickBy_5 rfl 0 rfl ?_
    refine gf_RX10_173 B rfl (wf_65 hW) dX10_thickBy_6 ?_
    refine j_icmp_ge (tgt := 37) B dX10_thickBy_9 (by decide) (fun c => ?_) (fun c => ?_)
    · replace h := h_pos c h
      refine j_iload_n B dX10_thickBy_37 rfl 2 rfl ?_
      have e1 := Option.some.inj h
      subst e1
      exact j_iret B E rfl dX10_thickBy_38 (Nat.le_refl _) (Nat.le_refl _) ⟨rfl, rfl, rfl, rfl⟩
    · replace h := h_neg c h
      refine j_aload_n B dX10_thickBy_12 rfl 0 rfl ?_
      refine gf_RX10_68 B rfl (wf_65 hW) (wf_180 hW) dX10_thickBy_13 ?_
      refine j_iload_n B dX10_thickBy_16 rfl 3 rfl ?_
      obtain ⟨b1, h⟩ := h_inb h
      refine j_iald B ((wf_84 hW)) b1 dX10_thickBy_17 ?_
      refine j_iload_n B dX10_thickBy_18 rfl 1 rfl ?_
      refine j_icmp_ne (tgt := 31) B dX10_thickBy_19 (by decide) (fun c => ?_) (fun c => ?_)
      · replace h := h_neg c h
        refine j_locals [0, 1, 2, 3] rfl ?_
        exact tX10_thickBy_31 B E hW ih (x1) (x2) (x3)  h
      · replace h := h_pos c h
        refine j_iload_n B dX10_thickBy_22 rfl 2 rfl ?_
        refine j_aload_n B dX10_thickBy_23 rfl 0 rfl ?_
        refine gf_RX10_71 B rfl (wf_65 hW) (wf_181 hW) dX10_thickBy_24 ?_
        refine j_iload_n B dX10_thickBy_27 rfl 3 rfl ?_
        obtain ⟨b2, h⟩ := h_inb h
        refine j_iald B ((wf_85 hW)) b2 dX10_thickBy_28 ?_
        refine j_iadd B dX10_thickBy_29 ?_
        refine j_istore_n (L' := [(2, .int (x2 + (vi0 83 x3.toNatClampNeg))), (0, .ref (G.1 + 63)), (1, .int x1), (3, .int x3)]) B dX10_thickBy_30 rfl (by decide) rfl ?_
        refine j_locals [1, 2, 0, 3] rfl ?_
        exact tX10_thickBy_31 B E hW ih (x1) ((x2 + (vi0 83 x3.toNatClampNeg))) (x3)  h
def fX10_thickBy (x1 : Int32) (vi0 : VI) : Option (Int32) := fX10_thickBy_4 vi0 FU x1 0 0
theorem tX10_thickBy {G : GT} {sv : SV} {vi0 : VI} {vl0 : VL} {ns : Nat} {x1 : Int32} {r : Int32} (hW : WF sv ns) (h : fX10_thickBy x1 vi0 = some (r)) : Call G mX10_thickBy 0 0 0 [.ref (G.1 + 63), .int x1] sv vi0 vl0 (QI r sv vi0 vl0) := by
  refine j_mk (by decide +kernel) (Nat.le_of_ble_eq_true rfl) (fun Γ B E => ?_)
  show J G Γ 0 0 0 [(0, .ref (G.1 + 63)), (1, .int x1)] [] sv vi0 vl0
  unfold fX10_thickBy at h
  refine j_iconst B dX10_thickBy_0 (v := 0) (by decide) ?_
  refine j_istore_n (L' := [(2, .int 0), (0, .ref (G.1 + 63)), (1, .int x1)]) B dX10_thickBy_1 rfl (by decide) rfl ?_
  refine j_iconst B dX10_thickBy_2 (v := 0) (by decide) ?_
  refine j_istore_n (L' := [(3, .int 0), (2, .int 0), (0, .ref (G.1 + 63)), (1, .int x1)]) B dX10_thickBy_3 rfl (by decide) rfl ?_
  refine j_locals [2, 3, 1, 0] rfl ?_
  exact tX10_thickBy_4 B E hW FU (x1) (0) (0)  h
def fX10_readNow_4 (vi0 : VI) : Nat → Int32 → Int32 → Option (Int32)
  | 0, _, _ => none
  | F + 1, x1, x2 => if (vi0 63 30) ≤ x2 then some (x1) else if inb x2 13 = true then fX10_readNow_4 vi0 F (x1 ||| ((1 : Int32) <<< ((vi0 82 x2.toNatClampNeg) &&& 31))) (x2 + 1) else none
theorem tX10_readNow_4 {G : GT} {sv : SV} {vi0 : VI} {vl0 : VL} {ns : Nat} {Γ : CT} {r : Int32} (B : Base G Γ mX10_readNow 0 0 0) (E : Ends G Γ 0 0 (QI r sv vi0 vl0)) (hW : WF sv ns) : ∀ (F : Nat) (x1 : Int32) (x2 : Int32), fX10_readNow_4 vi0 F x1 x2 = some (r) → J G Γ 0 0 4 [(0, .ref (G.1 + 63)), (1, .int x1), (2, .int x2)] [] sv vi0 vl0 := by
  intro F
  induction F with
  | zero =>
    intro x1 x2  h
    cases (show (none : Option (Int32)) = some (r) from h)
  | succ F ih =>
    intro x1 x2  h
    rw [fX10_readNow_4] at h
    refine j_iload_n B dX10_readNow_4 rfl 2 rfl ?_
    refine j_aload_n B dX10_readNow_5 rfl 0 rfl ?_
    refine gf_RX10_173 B rfl (wf_65 hW) dX10_readNow_6 ?_
    refine j_icmp_ge (tgt := 29) B dX10_readNow_9 (by decide) (fun c => ?_) (fun c => ?_)
    · replace h := h_pos c h
      refine j_iload_n B dX10_readNow_29 rfl 1 rfl ?_
      have e1 := Option.some.inj h
      subst e1
      exact j_iret B E rfl dX10_readNow_30 (Nat.le_refl _) (Nat.le_refl _) ⟨rfl, rfl, rfl, rfl⟩
    · replace h := h_neg c h
      refine j_iload_n B dX10_readNow_12 rfl 1 rfl ?_
      refine j_iconst B dX10_readNow_13 (v := 1) (by decide) ?_
      refine j_aload_n B dX10_readNow_14 rfl 0 rfl ?_
      refine gf_RX10_68 B rfl (wf_65 hW) (wf_180 hW) dX10_readNow_15 ?_
      refine j_iload_n B dX10_readNow_18 rfl 2 rfl ?_
      obtain ⟨b1, h⟩ := h_inb h
      refine j_iald B ((wf_84 hW)) b1 dX10_readNow_19 ?_
      refine j_ishl B dX10_readNow_20 ?_
      refine j_ior B dX10_readNow_21 ?_
      refine j_istore_n (L' := [(1, .int (x1 ||| ((1 : Int32) <<< ((vi0 82 x2.toNatClampNeg) &&& 31)))), (0, .ref (G.1 + 63)), (2, .int x2)]) B dX10_readNow_22 rfl (by decide) rfl ?_
      refine j_iinc (v := (x2 + 1)) (L' := [(2, .int (x2 + 1)), (1, .int (x1 ||| ((1 : Int32) <<< ((vi0 82 x2.toNatClampNeg) &&& 31)))), (0, .ref (G.1 + 63))]) B dX10_readNow_23 2 rfl rfl (by decide) rfl ?_
      refine j_goto (tgt := 4) B dX10_readNow_26 (by decide) ?_
      refine j_locals [2, 1, 0] rfl ?_
      exact ih ((x1 ||| ((1 : Int32) <<< ((vi0 82 x2.toNatClampNeg) &&& 31)))) ((x2 + 1))  h
def fX10_readNow  (vi0 : VI) : Option (Int32) := fX10_readNow_4 vi0 FU 0 0
theorem tX10_readNow {G : GT} {sv : SV} {vi0 : VI} {vl0 : VL} {ns : Nat} {r : Int32} (hW : WF sv ns) (h : fX10_readNow vi0 = some (r)) : Call G mX10_readNow 0 0 0 [.ref (G.1 + 63)] sv vi0 vl0 (QI r sv vi0 vl0) := by
  refine j_mk (by decide +kernel) (Nat.le_of_ble_eq_true rfl) (fun Γ B E => ?_)
  show J G Γ 0 0 0 [(0, .ref (G.1 + 63))] [] sv vi0 vl0
  unfold fX10_readNow at h
  refine j_iconst B dX10_readNow_0 (v := 0) (by decide) ?_
  refine j_istore_n (L' := [(1, .int 0), (0, .ref (G.1 + 63))]) B dX10_readNow_1 rfl (by decide) rfl ?_
  refine j_iconst B dX10_readNow_2 (v := 0) (by decide) ?_
  refine j_istore_n (L' := [(2, .int 0), (1, .int 0), (0, .ref (G.1 + 63))]) B dX10_readNow_3 rfl (by decide) rfl ?_
  refine j_locals [2, 1, 0] rfl ?_
  exact tX10_readNow_4 B E hW FU (0) (0)  h
def fX10_mostNow_38 (vi0 : VI) (k5 : Int32 → Int32 → Option (Int32)) (x1 : Int32) (x2 : Int32) : Option (Int32) := k5 x1 (x2 + 1)
theorem tX10_mostNow_38 {G : GT} {sv : SV} {vi0 : VI} {vl0 : VL} {ns : Nat} {Γ : CT} {r : Int32} {k5 : Int32 → Int32 → Option (Int32)} (B : Base G Γ mX10_mostNow 1 0 0) (E : Ends G Γ 0 0 (QI r sv vi0 vl0)) (hW : WF sv ns) (hk5 : ∀ (x1 : Int32) (x2 : Int32), k5 x1 x2 = some (r) → J G Γ 0 0 5 [(0, .ref (G.1 + 63)), (1, .int x1), (2, .int x2)] [] sv vi0 vl0) : ∀ (x1 : Int32) (x2 : Int32), fX10_mostNow_38 vi0 k5 x1 x2 = some (r) → J G Γ 0 0 38 [(0, .ref (G.1 + 63)), (1, .int x1), (2, .int x2)] [] sv vi0 vl0 := by
  intro x1 x2  h
  unfold fX10_mostNow_38 at h
  refine j_iinc (v := (x2 + 1)) (L' := [(2, .int (x2 + 1)), (0, .ref (G.1 + 63)), (1, .int x1)]) B dX10_mostNow_38 2 rfl rfl (by decide) rfl ?_
  refine j_goto (tgt := 5) B dX10_mostNow_41 (by decide) ?_
  refine j_locals [1, 2, 0] rfl ?_
  exact hk5 (x1) ((x2 + 1))  h
def fX10_mostNow_36 (vi0 : VI) (k5 : Int32 → Int32 → Option (Int32)) (x2 : Int32) : Option (Int32) := fX10_mostNow_38 vi0 k5 x2 x2
theorem tX10_mostNow_36 {G : GT} {sv : SV} {vi0 : VI} {vl0 : VL} {ns : Nat} {Γ : CT} {r : Int32} {k5 : Int32 → Int32 → Option (Int32)} (B : Base G Γ mX10_mostNow 1 0 0) (E : Ends G Γ 0 0 (QI r sv vi0 vl0)) (hW : WF sv ns) (hk5 : ∀ (x1 : Int32) (x2 : Int32), k5 x1 x2 = some (r) → J G Γ 0 0 5 [(0, .ref (G.1 + 63)), (1, .int x1), (2, .int x2)] [] sv vi0 vl0) : ∀ (x2 : Int32), fX10_mostNow_36 vi0 k5 x2 = some (r) → J G Γ 0 0 36 [(0, .ref (G.1 + 63)), (2, .int x2)] [] sv vi0 vl0 := by
  intro x2  h
  unfold fX10_mostNow_36 at h
  refine j_iload_n B dX10_mostNow_36 rfl 1 rfl ?_
  refine j_istore_n (L' := [(1, .int x2), (0, .ref (G.1 + 63)), (2, .int x2)]) B dX10_mostNow_37 rfl (by decide) rfl ?_
  refine j_locals [1, 0, 2] rfl ?_
  exact tX10_mostNow_38 B E hW hk5 (x2) (x2)  h
def fX10_mostNow_5 (vi0 : VI) : Nat → Int32 → Int32 → Option (Int32)
  | 0, _, _ => none
  | F + 1, x1, x2 => if 6 ≤ x2 then some (x1) else (fX10_thickBy x2 vi0).bind fun r1 => if r1 ≤ 0 then fX10_mostNow_38 vi0 (fX10_mostNow_5 vi0 F) x1 x2 else if x1 < 0 then fX10_mostNow_36 vi0 (fX10_mostNow_5 vi0 F) x2 else (fX10_thickBy x2 vi0).bind fun r2 => (fX10_thickBy x1 vi0).bind fun r3 => if r2 ≤ r3 then fX10_mostNow_38 vi0 (fX10_mostNow_5 vi0 F) x1 x2 else fX10_mostNow_36 vi0 (fX10_mostNow_5 vi0 F) x2
theorem tX10_mostNow_5 {G : GT} {sv : SV} {vi0 : VI} {vl0 : VL} {ns : Nat} {Γ : CT} {r : Int32} (B : Base G Γ mX10_mostNow 1 0 0) (E : Ends G Γ 0 0 (QI r sv vi0 vl0)) (hW : WF sv ns) : ∀ (F : Nat) (x1 : Int32) (x2 : Int32), fX10_mostNow_5 vi0 F x1 x2 = some (r) → J G Γ 0 0 5 [(0, .ref (G.1 + 63)), (1, .int x1), (2, .int x2)] [] sv vi0 vl0 := by
  intro F
  induction F with
  | zero =>
    intro x1 x2  h
    cases (show (none : Option (Int32)) = some (r) from h)
  | succ F ih =>
    intro x1 x2  h
    rw [fX10_mostNow_5] at h
    refine j_iload_n B dX10_mostNow_5 rfl 2 rfl ?_
    refine j_bipush B dX10_mostNow_6 (v := 6) (by decide) ?_
    refine j_icmp_ge (tgt := 44) B dX10_mostNow_8 (by decide) (fun c => ?_) (fun c => ?_)
    · replace h := h_pos c h
      refine j_iload_n B dX10_mostNow_44 rfl 1 rfl ?_
      have e1 := Option.some.inj h
      subst e1
      exact j_iret B E rfl dX10_mostNow_45 (Nat.le_refl _) (Nat.le_refl _) ⟨rfl, rfl, rfl, rfl⟩
    · replace h := h_neg c h
      refine j_aload_n B dX10_mostNow_11 rfl 0 rfl ?_
      refine j_iload_n B dX10_mostNow_12 rfl 2 rfl ?_
      obtain ⟨r1, hr1, h⟩ := h_bind h
      refine j_cVI (rest := []) B (tX10_thickBy hW hr1) cls10 (wf_65 hW) jt_RX10_275 wi_X10_thickBy ws_X10_thickBy rfl (by decide) (Nat.le_refl _) (Nat.le_refl _) rfl (Nat.le_of_ble_eq_true rfl) dX10_mostNow_13 ?_
      refine j_if_le (tgt := 38) B dX10_mostNow_16 (by decide) (fun c => ?_) (fun c => ?_)
      · replace h := h_pos c h
        refine j_locals [0, 1, 2] rfl ?_
        exact tX10_mostNow_38 B E hW ih (x1) (x2)  h
      · replace h := h_neg c h
        refine j_iload_n B dX10_mostNow_19 rfl 1 rfl ?_
        refine j_if_lt (tgt := 36) B dX10_mostNow_20 (by decide) (fun c => ?_) (fun c => ?_)
        · replace h := h_pos c h
          refine j_locals [0, 2] rfl ?_
          exact tX10_mostNow_36 B E hW ih (x2)  h
        · replace h := h_neg c h
          refine j_aload_n B dX10_mostNow_23 rfl 0 rfl ?_
          refine j_iload_n B dX10_mostNow_24 rfl 2 rfl ?_
          obtain ⟨r2, hr2, h⟩ := h_bind h
          refine j_cVI (rest := []) B (tX10_thickBy hW hr2) cls10 (wf_65 hW) jt_RX10_275 wi_X10_thickBy ws_X10_thickBy rfl (by decide) (Nat.le_refl _) (Nat.le_refl _) rfl (Nat.le_of_ble_eq_true rfl) dX10_mostNow_25 ?_
          refine j_aload_n B dX10_mostNow_28 rfl 0 rfl ?_
          refine j_iload_n B dX10_mostNow_29 rfl 1 rfl ?_
          obtain ⟨r3, hr3, h⟩ := h_bind h
          refine j_cVI (rest := [.int r2]) B (tX10_thickBy hW hr3) cls10 (wf_65 hW) jt_RX10_275 wi_X10_thickBy ws_X10_thickBy rfl (by decide) (Nat.le_refl _) (Nat.le_refl _) rfl (Nat.le_of_ble_eq_true rfl) dX10_mostNow_30 ?_
          refine j_icmp_le (tgt := 38) B dX10_mostNow_33 (by decide) (fun c => ?_) (fun c => ?_)
          · replace h := h_pos c h
            refine j_locals [0, 1, 2] rfl ?_
            exact tX10_mostNow_38 B E hW ih (x1) (x2)  h
          · replace h := h_neg c h
            refine j_locals [0, 2] rfl ?_
            exact tX10_mostNow_36 B E hW ih (x2)  h
def fX10_mostNow  (vi0 : VI) : Option (Int32) := fX10_mostNow_5 vi0 FU (-2) 0
theorem tX10_mostNow {G : GT} {sv : SV} {vi0 : VI} {vl0 : VL} {ns : Nat} {r : Int32} (hW : WF sv ns) (h : fX10_mostNow vi0 = some (r)) : Call G mX10_mostNow 1 0 0 [.ref (G.1 + 63)] sv vi0 vl0 (QI r sv vi0 vl0) := by
  refine j_mk (by decide +kernel) (Nat.le_of_ble_eq_true rfl) (fun Γ B E => ?_)
  show J G Γ 0 0 0 [(0, .ref (G.1 + 63))] [] sv vi0 vl0
  unfold fX10_mostNow at h
  refine j_bipush B dX10_mostNow_0 (v := (-2)) (by decide) ?_
  refine j_istore_n (L' := [(1, .int (-2)), (0, .ref (G.1 + 63))]) B dX10_mostNow_2 rfl (by decide) rfl ?_
  refine j_iconst B dX10_mostNow_3 (v := 0) (by decide) ?_
  refine j_istore_n (L' := [(2, .int 0), (1, .int (-2)), (0, .ref (G.1 + 63))]) B dX10_mostNow_4 rfl (by decide) rfl ?_
  refine j_locals [2, 1, 0] rfl ?_
  exact tX10_mostNow_5 B E hW FU ((-2)) (0)  h
def fX10_rowFault (x1 : Int32) (vi0 : VI) : Option (Int32) := if inb x1 6 = true then if (vi0 94 x1.toNatClampNeg) = (-1) then some ((-11)) else if inb x1 6 = true then if (vi0 94 x1.toNatClampNeg) = (-2) then some (0) else some ((-12)) else none else none
theorem tX10_rowFault {G : GT} {sv : SV} {vi0 : VI} {vl0 : VL} {ns : Nat} {x1 : Int32} {r : Int32} (hW : WF sv ns) (h : fX10_rowFault x1 vi0 = some (r)) : Call G mX10_rowFault 0 0 0 [.ref (G.1 + 63), .int x1] sv vi0 vl0 (QI r sv vi0 vl0) := by
  refine j_mk (by decide +kernel) (Nat.le_of_ble_eq_true rfl) (fun Γ B E => ?_)
  show J G Γ 0 0 0 [(0, .ref (G.1 + 63)), (1, .int x1)] [] sv vi0 vl0
  unfold fX10_rowFault at h
  refine j_aload_n B dX10_rowFault_0 rfl 0 rfl ?_
  refine gf_RX10_105 B rfl (wf_65 hW) (wf_192 hW) dX10_rowFault_1 ?_
  refine j_iload_n B dX10_rowFault_4 rfl 1 rfl ?_
  obtain ⟨b1, h⟩ := h_inb h
  refine j_iald B ((wf_96 hW)) b1 dX10_rowFault_5 ?_
  refine j_iconst B dX10_rowFault_6 (v := (-1)) (by decide) ?_
  refine j_icmp_ne (tgt := 15) B dX10_rowFault_7 (by decide) (fun c => ?_) (fun c => ?_)
  · replace h := h_neg c h
    refine j_aload_n B dX10_rowFault_15 rfl 0 rfl ?_
    refine gf_RX10_105 B rfl (wf_65 hW) (wf_192 hW) dX10_rowFault_16 ?_
    refine j_iload_n B dX10_rowFault_19 rfl 1 rfl ?_
    obtain ⟨b2, h⟩ := h_inb h
    refine j_iald B ((wf_96 hW)) b2 dX10_rowFault_20 ?_
    refine j_bipush B dX10_rowFault_21 (v := (-2)) (by decide) ?_
    refine j_icmp_ne (tgt := 30) B dX10_rowFault_23 (by decide) (fun c => ?_) (fun c => ?_)
    · replace h := h_neg c h
      refine j_bipush B dX10_rowFault_30 (v := (-12)) (by decide) ?_
      have e1 := Option.some.inj h
      subst e1
      exact j_iret B E rfl dX10_rowFault_32 (Nat.le_refl _) (Nat.le_refl _) ⟨rfl, rfl, rfl, rfl⟩
    · replace h := h_pos c h
      refine j_iconst B dX10_rowFault_26 (v := 0) (by decide) ?_
      refine j_goto (tgt := 32) B dX10_rowFault_27 (by decide) ?_
      have e1 := Option.some.inj h
      subst e1
      exact j_iret B E rfl dX10_rowFault_32 (Nat.le_refl _) (Nat.le_refl _) ⟨rfl, rfl, rfl, rfl⟩
  · replace h := h_pos c h
    refine j_bipush B dX10_rowFault_10 (v := (-11)) (by decide) ?_
    refine j_goto (tgt := 32) B dX10_rowFault_12 (by decide) ?_
    have e1 := Option.some.inj h
    subst e1
    exact j_iret B E rfl dX10_rowFault_32 (Nat.le_refl _) (Nat.le_refl _) ⟨rfl, rfl, rfl, rfl⟩
def fX10_at (x1 : Int32) (x2 : Int32) (vl0 : VL) : Option (Int32) := if inb ((60 * x1) + x2) 360 = true then some ((vl0 96 ((60 * x1) + x2).toNatClampNeg).toInt32) else none
theorem tX10_at {G : GT} {sv : SV} {vi0 : VI} {vl0 : VL} {ns : Nat} {x1 : Int32} {x2 : Int32} {r : Int32} (hW : WF sv ns) (h : fX10_at x1 x2 vl0 = some (r)) : Call G mX10_at 0 0 0 [.ref (G.1 + 63), .int x1, .int x2] sv vi0 vl0 (QI r sv vi0 vl0) := by
  refine j_mk (by decide +kernel) (Nat.le_of_ble_eq_true rfl) (fun Γ B E => ?_)
  show J G Γ 0 0 0 [(0, .ref (G.1 + 63)), (1, .int x1), (2, .int x2)] [] sv vi0 vl0
  unfold fX10_at at h
  refine j_aload_n B dX10_at_0 rfl 0 rfl ?_
  refine gf_RX10_111 B rfl (wf_65 hW) (wf_194 hW) dX10_at_1 ?_
  refine j_bipush B dX10_at_4 (v := 60) (by decide) ?_
  refine j_iload_n B dX10_at_6 rfl 1 rfl ?_
  refine j_imul B dX10_at_7 ?_
  refine j_iload_n B dX10_at_8 rfl 2 rfl ?_
  refine j_iadd B dX10_at_9 ?_
  obtain ⟨b1, h⟩ := h_inb h
  refine j_lald B ((wf_98 hW)) b1 dX10_at_10 ?_
  refine j_l2i B dX10_at_11 ?_
  have e1 := Option.some.inj h
  subst e1
  exact j_iret B E rfl dX10_at_12 (Nat.le_refl _) (Nat.le_refl _) ⟨rfl, rfl, rfl, rfl⟩
def fX10_goBook_85 (vl0 : VL) (k13 : Int32 → Int32 → Int32 → VI → Option (VI)) (x1 : Int32) (x2 : Int32) (x4 : Int32) (vi : VI) : Option (VI) := k13 x1 x2 (x4 + 1) vi
theorem tX10_goBook_85 {G : GT} {sv : SV} {vl0 : VL} {ns : Nat} {Γ : CT} {vi' : VI} {k13 : Int32 → Int32 → Int32 → VI → Option (VI)} (B : Base G Γ mX10_goBook 5 0 0) (E : Ends G Γ 0 0 (QV sv vi' vl0)) (hW : WF sv ns) (hk13 : ∀ (x1 : Int32) (x2 : Int32) (x4 : Int32) (vi : VI), k13 x1 x2 x4 vi = some (vi') → J G Γ 0 0 13 [(0, .ref (G.1 + 63)), (1, .int x1), (2, .int x2), (4, .int x4)] [] sv vi vl0) : ∀ (x1 : Int32) (x2 : Int32) (x4 : Int32) (vi : VI), fX10_goBook_85 vl0 k13 x1 x2 x4 vi = some (vi') → J G Γ 0 0 85 [(0, .ref (G.1 + 63)), (1, .int x1), (2, .int x2), (4, .int x4)] [] sv vi vl0 := by
  intro x1 x2 x4 vi  h
  unfold fX10_goBook_85 at h
  refine j_iinc (v := (x4 + 1)) (L' := [(4, .int (x4 + 1)), (0, .ref (G.1 + 63)), (1, .int x1), (2, .int x2)]) B dX10_goBook_85 3 rfl rfl (by decide) rfl ?_
  refine j_goto (tgt := 13) B dX10_goBook_88 (by decide) ?_
  refine j_locals [1, 2, 3, 0] rfl ?_
  exact hk13 (x1) (x2) ((x4 + 1)) (vi)  h
def fX10_goBook_13 (vl0 : VL) : Nat → Int32 → Int32 → Int32 → VI → Option (VI)
  | 0, _, _, _, _ => none
  | F + 1, x1, x2, x4, vi => if x2 ≤ x4 then some (vi) else if inb x1 6 = true then if (vi 95 x1.toNatClampNeg) ≤ x4 then some (vi) else (fX10_at x1 x4 vl0).bind fun r3 => (fX10_in r3 0 65).bind fun r4 => if r4 = true then (fX10_at x1 x4 vl0).bind fun r5 => (fX10_whomIn r5).bind fun r6 => (fX10_at x1 x4 vl0).bind fun r7 => (fX10_muchIn r7 vi).bind fun r8 => (fX10_goLook r6 r8 vi).bind fun r9 => if r9.1 = 0 then fX10_goBook_85 vl0 (fX10_goBook_13 vl0 F) x1 x2 x4 (j_up r9.2 63 33 ((r9.2 63 33) + 1)) else fX10_goBook_85 vl0 (fX10_goBook_13 vl0 F) x1 x2 x4 r9.2 else some (vi) else none
theorem tX10_goBook_13 {G : GT} {sv : SV} {vl0 : VL} {ns : Nat} {Γ : CT} {vi' : VI} (B : Base G Γ mX10_goBook 5 0 0) (E : Ends G Γ 0 0 (QV sv vi' vl0)) (hW : WF sv ns) : ∀ (F : Nat) (x1 : Int32) (x2 : Int32) (x4 : Int32) (vi : VI), fX10_goBook_13 vl0 F x1 x2 x4 vi = some (vi') → J G Γ 0 0 13 [(0, .ref (G.1 + 63)), (1, .int x1), (2, .int x2), (4, .int x4)] [] sv vi vl0 := by
  intro F
  induction F with
  | zero =>
    intro x1 x2 x4 vi  h
    cases (show (none : Option (VI)) = some (vi') from h)
  | succ F ih =>
    intro x1 x2 x4 vi  h
    rw [fX10_goBook_13] at h
    refine j_iload B dX10_goBook_13 3 rfl ?_
    refine j_iload_n B dX10_goBook_15 rfl 2 rfl ?_
    refine j_icmp_ge (tgt := 91) B dX10_goBook_16 (by decide) (fun c => ?_) (fun c => ?_)
    · replace h := h_pos c h
      have e1 := Option.some.inj h
      subst e1
      exact j_vret B E rfl dX10_goBook_91 (Nat.le_refl _) (Nat.le_refl _) ⟨rfl, rfl, rfl, rfl⟩
    · replace h := h_neg c h
      refine j_iload B dX10_goBook_19 3 rfl ?_
      refine j_aload_n B dX10_goBook_21 rfl 0 rfl ?_
      refine gf_RX10_108 B rfl (wf_65 hW) (wf_193 hW) dX10_goBook_22 ?_
      refine j_iload_n B dX10_goBook_25 rfl 1 rfl ?_
      obtain ⟨b2, h⟩ := h_inb h
      refine j_iald B ((wf_97 hW)) b2 dX10_goBook_26 ?_
      refine j_icmp_ge (tgt := 91) B dX10_goBook_27 (by decide) (fun c => ?_) (fun c => ?_)
      · replace h := h_pos c h
        have e1 := Option.some.inj h
        subst e1
        exact j_vret B E rfl dX10_goBook_91 (Nat.le_refl _) (Nat.le_refl _) ⟨rfl, rfl, rfl, rfl⟩
      · replace h := h_neg c h
        refine j_aload_n B dX10_goBook_30 rfl 0 rfl ?_
        refine j_iload_n B dX10_goBook_31 rfl 1 rfl ?_
        refine j_iload B dX10_goBook_32 3 rfl ?_
        obtain ⟨r3, hr3, h⟩ := h_bind h
        refine j_cVI (rest := []) B (tX10_at hW hr3) cls10 (wf_65 hW) jt_RX10_281 wi_X10_at ws_X10_at rfl (by decide) (Nat.le_refl _) (Nat.le_refl _) rfl (Nat.le_of_ble_eq_true rfl) dX10_goBook_34 ?_
        refine j_iconst B dX10_goBook_37 (v := 0) (by decide) ?_
        refine j_bipush B dX10_goBook_38 (v := 65) (by decide) ?_
        obtain ⟨r4, hr4, h⟩ := h_bind h
        refine j_cSI (rest := []) B (tX10_in hr4) jt_RX10_124 wst_X10_in rfl (by decide) (Nat.le_refl _) (Nat.le_refl _) rfl (Nat.le_of_ble_eq_true rfl) dX10_goBook_40 ?_
        refine j_if_eq (tgt := 91) B dX10_goBook_43 (by decide) (fun c => ?_) (fun c => ?_)
        · replace h := h_neg (b2i_0 c) h
          have e1 := Option.some.inj h
          subst e1
          exact j_vret B E rfl dX10_goBook_91 (Nat.le_refl _) (Nat.le_refl _) ⟨rfl, rfl, rfl, rfl⟩
        · replace h := h_pos (b2i_1 c) h
          refine j_aload_n B dX10_goBook_46 rfl 0 rfl ?_
          refine j_aload_n B dX10_goBook_47 rfl 0 rfl ?_
          refine j_aload_n B dX10_goBook_48 rfl 0 rfl ?_
          refine j_iload_n B dX10_goBook_49 rfl 1 rfl ?_
          refine j_iload B dX10_goBook_50 3 rfl ?_
          obtain ⟨r5, hr5, h⟩ := h_bind h
          refine j_cVI (rest := [.ref (G.1 + 63), .ref (G.1 + 63)]) B (tX10_at hW hr5) cls10 (wf_65 hW) jt_RX10_281 wi_X10_at ws_X10_at rfl (by decide) (Nat.le_refl _) (Nat.le_refl _) rfl (Nat.le_of_ble_eq_true rfl) dX10_goBook_52 ?_
          obtain ⟨r6, hr6, h⟩ := h_bind h
          refine j_cVI (rest := [.ref (G.1 + 63)]) B (tX10_whomIn hW hr6) cls10 (wf_65 hW) jt_RX10_253 wi_X10_whomIn ws_X10_whomIn rfl (by decide) (Nat.le_refl _) (Nat.le_refl _) rfl (Nat.le_of_ble_eq_true rfl) dX10_goBook_55 ?_
          refine j_aload_n B dX10_goBook_58 rfl 0 rfl ?_
          refine j_aload_n B dX10_goBook_59 rfl 0 rfl ?_
          refine j_iload_n B dX10_goBook_60 rfl 1 rfl ?_
          refine j_iload B dX10_goBook_61 3 rfl ?_
          obtain ⟨r7, hr7, h⟩ := h_bind h
          refine j_cVI (rest := [.ref (G.1 + 63), .int r6, .ref (G.1 + 63)]) B (tX10_at hW hr7) cls10 (wf_65 hW) jt_RX10_281 wi_X10_at ws_X10_at rfl (by decide) (Nat.le_refl _) (Nat.le_refl _) rfl (Nat.le_of_ble_eq_true rfl) dX10_goBook_63 ?_
          obtain ⟨r8, hr8, h⟩ := h_bind h
          refine j_cVI (rest := [.int r6, .ref (G.1 + 63)]) B (tX10_muchIn hW hr8) cls10 (wf_65 hW) jt_RX10_256 wi_X10_muchIn ws_X10_muchIn rfl (by decide) (Nat.le_refl _) (Nat.le_refl _) rfl (Nat.le_of_ble_eq_true rfl) dX10_goBook_66 ?_
          obtain ⟨r9, hr9, h⟩ := h_bind h
          refine j_cVI (rest := []) B (tX10_goLook hW hr9) cls10 (wf_65 hW) jt_RX10_272 wi_X10_goLook ws_X10_goLook rfl (by decide) (Nat.le_refl _) (Nat.le_refl _) rfl (Nat.le_of_ble_eq_true rfl) dX10_goBook_69 ?_
          refine j_if_ne (tgt := 85) B dX10_goBook_72 (by decide) (fun c => ?_) (fun c => ?_)
          · replace h := h_neg c h
            refine j_locals [0, 1, 2, 3] rfl ?_
            exact tX10_goBook_85 B E hW ih (x1) (x2) (x4) (r9.2)  h
          · replace h := h_pos c h
            refine j_aload_n B dX10_goBook_75 rfl 0 rfl ?_
            refine j_dup B dX10_goBook_76 rfl ?_
            refine gf_RX10_278 B rfl (wf_65 hW) dX10_goBook_77 ?_
            refine j_iconst B dX10_goBook_80 (v := 1) (by decide) ?_
            refine j_iadd B dX10_goBook_81 ?_
            refine pf_RX10_278 B rfl (wf_65 hW) dX10_goBook_82 ?_
            refine j_locals [0, 1, 2, 3] rfl ?_
            exact tX10_goBook_85 B E hW ih (x1) (x2) (x4) ((j_up r9.2 63 33 ((r9.2 63 33) + 1)))  h
def fX10_goBook (x1 : Int32) (x2 : Int32) (x3 : Int32) (vi0 : VI) (vl0 : VL) : Option (VI) := (fX10_layNow x3 vi0).bind fun r1 => fX10_goBook_13 vl0 FU x1 x2 0 (j_up r1 63 33 0)
theorem tX10_goBook {G : GT} {sv : SV} {vi0 : VI} {vl0 : VL} {ns : Nat} {x1 : Int32} {x2 : Int32} {x3 : Int32} {vi' : VI} (hW : WF sv ns) (h : fX10_goBook x1 x2 x3 vi0 vl0 = some (vi')) : Call G mX10_goBook 5 0 0 [.ref (G.1 + 63), .int x1, .int x2, .int x3] sv vi0 vl0 (QV sv vi' vl0) := by
  refine j_mk (by decide +kernel) (Nat.le_of_ble_eq_true rfl) (fun Γ B E => ?_)
  show J G Γ 0 0 0 [(0, .ref (G.1 + 63)), (1, .int x1), (2, .int x2), (3, .int x3)] [] sv vi0 vl0
  unfold fX10_goBook at h
  refine j_aload_n B dX10_goBook_0 rfl 0 rfl ?_
  refine j_iload_n B dX10_goBook_1 rfl 3 rfl ?_
  obtain ⟨r1, hr1, h⟩ := h_bind h
  refine j_cVV (rest := []) B (tX10_layNow hW hr1) cls10 (wf_65 hW) jt_RX10_169 wi_X10_layNow ws_X10_layNow rfl (by decide) (Nat.le_refl _) (Nat.le_refl _) rfl (Nat.le_of_ble_eq_true rfl) dX10_goBook_2 ?_
  refine j_aload_n B dX10_goBook_5 rfl 0 rfl ?_
  refine j_iconst B dX10_goBook_6 (v := 0) (by decide) ?_
  refine pf_RX10_278 B rfl (wf_65 hW) dX10_goBook_7 ?_
  refine j_iconst B dX10_goBook_10 (v := 0) (by decide) ?_
  refine j_istore (L' := [(4, .int 0), (0, .ref (G.1 + 63)), (1, .int x1), (2, .int x2), (3, .int x3)]) B dX10_goBook_11 (by decide) rfl ?_
  refine j_locals [1, 2, 3, 0] rfl ?_
  exact tX10_goBook_13 B E hW FU (x1) (x2) (0) ((j_up r1 63 33 0))  h
def fX10_areMany (x0 : Int32)  : Option (Bool) := (fX10_in x0 0 40).bind fun r1 => some (r1)
theorem tX10_areMany {G : GT} {sv : SV} {vi0 : VI} {vl0 : VL} {x0 : Int32} {r : Bool} (h : fX10_areMany x0 = some (r)) : Call G mX10_areMany 1 0 0 [.int x0] sv vi0 vl0 (QI (b2i r) sv vi0 vl0) := by
  refine j_mk (by decide +kernel) (Nat.le_of_ble_eq_true rfl) (fun Γ B E => ?_)
  show J G Γ 0 0 0 [(0, .int x0)] [] sv vi0 vl0
  unfold fX10_areMany at h
  refine j_iload_n B dX10_areMany_0 rfl 0 rfl ?_
  refine j_iconst B dX10_areMany_1 (v := 0) (by decide) ?_
  refine j_bipush B dX10_areMany_2 (v := 40) (by decide) ?_
  obtain ⟨r1, hr1, h⟩ := h_bind h
  refine j_cSI (rest := []) B (tX10_in hr1) jt_RX10_124 wst_X10_in rfl (by decide) (Nat.le_refl _) (Nat.le_refl _) rfl (Nat.le_of_ble_eq_true rfl) dX10_areMany_4 ?_
  have z9 := b2i_or r1
  have e1 := Option.some.inj h
  subst e1
  exact j_zret B E rfl z9 dX10_areMany_7 (Nat.le_refl _) (Nat.le_refl _) ⟨rfl, rfl, rfl, rfl⟩
def fX10_later (x1 : Int32) (x2 : Int32) (x3 : Int32) (x4 : Int32) (vi0 : VI) (vl0 : VL) : Option (Int32 × VI) := (fX10_isShelf x1).bind fun r1 => if r1 = true then (fX10_areMany x2).bind fun r2 => if r2 = true then (fX10_isSill x3 vi0).bind fun r3 => if r3 = true then (fX10_in x4 0 4).bind fun r4 => if r4 = true then (fX10_rowFault x1 vi0).bind fun r5 => if 0 ≤ r5 then (fX10_goBook x1 x2 x3 vi0 vl0).bind fun r6 => if x4 = 0 then some ((r6 63 30), r6) else if x4 = 1 then (fX10_allThick r6).bind fun r7 => some (r7, r6) else if x4 = 2 then (fX10_readNow r6).bind fun r8 => some (r8, r6) else if x4 = 3 then (fX10_mostNow r6).bind fun r9 => some (r9, r6) else some ((r6 63 33), r6) else (fX10_rowFault x1 vi0).bind fun r10 => some (r10, vi0) else some ((-1), vi0) else some ((-1), vi0) else some ((-1), vi0) else some ((-1), vi0)
theorem tX10_later {G : GT} {sv : SV} {vi0 : VI} {vl0 : VL} {ns : Nat} {x1 : Int32} {x2 : Int32} {x3 : Int32} {x4 : Int32} {r : Int32} {vi' : VI} (hW : WF sv ns) (h : fX10_later x1 x2 x3 x4 vi0 vl0 = some (r, vi')) : Call G mX10_later 6 0 0 [.ref (G.1 + 63), .int x1, .int x2, .int x3, .int x4] sv vi0 vl0 (QI r sv vi' vl0) := by
  refine j_mk (by decide +kernel) (Nat.le_of_ble_eq_true rfl) (fun Γ B E => ?_)
  show J G Γ 0 0 0 [(0, .ref (G.1 + 63)), (1, .int x1), (2, .int x2), (3, .int x3), (4, .int x4)] [] sv vi0 vl0
  unfold fX10_later at h
  refine j_iload_n B dX10_later_0 rfl 1 rfl ?_
  obtain ⟨r1, hr1, h⟩ := h_bind h
  refine j_cSI (rest := []) B (tX10_isShelf hr1) jt_RX10_132 wst_X10_isShelf rfl (by decide) (Nat.le_refl _) (Nat.le_refl _) rfl (Nat.le_of_ble_eq_true rfl) dX10_later_1 ?_
  refine j_if_eq (tgt := 32) B dX10_later_4 (by decide) (fun c => ?_) (fun c => ?_)
  · replace h := h_neg (b2i_0 c) h
    refine j_iconst B dX10_later_32 (v := (-1)) (by decide) ?_
    obtain ⟨e1, e2⟩ := Prod.mk.inj (Option.some.inj h)
    subst e1
    subst e2
    exact j_iret B E rfl dX10_later_33 (Nat.le_refl _) (Nat.le_refl _) ⟨rfl, rfl, rfl, rfl⟩
  · replace h := h_pos (b2i_1 c) h
    refine j_iload_n B dX10_later_7 rfl 2 rfl ?_
    obtain ⟨r2, hr2, h⟩ := h_bind h
    refine j_cSI (rest := []) B (tX10_areMany hr2) jt_RX10_284 wst_X10_areMany rfl (by decide) (Nat.le_refl _) (Nat.le_refl _) rfl (Nat.le_of_ble_eq_true rfl) dX10_later_8 ?_
    refine j_if_eq (tgt := 32) B dX10_later_11 (by decide) (fun c => ?_) (fun c => ?_)
    · replace h := h_neg (b2i_0 c) h
      refine j_iconst B dX10_later_32 (v := (-1)) (by decide) ?_
      obtain ⟨e1, e2⟩ := Prod.mk.inj (Option.some.inj h)
      subst e1
      subst e2
      exact j_iret B E rfl dX10_later_33 (Nat.le_refl _) (Nat.le_refl _) ⟨rfl, rfl, rfl, rfl⟩
    · replace h := h_pos (b2i_1 c) h
      refine j_aload_n B dX10_later_14 rfl 0 rfl ?_
      refine j_iload_n B dX10_later_15 rfl 3 rfl ?_
      obtain ⟨r3, hr3, h⟩ := h_bind h
      refine j_cVI (rest := []) B (tX10_isSill hW hr3) cls10 (wf_65 hW) jt_RX10_152 wi_X10_isSill ws_X10_isSill rfl (by decide) (Nat.le_refl _) (Nat.le_refl _) rfl (Nat.le_of_ble_eq_true rfl) dX10_later_16 ?_
      refine j_if_eq (tgt := 32) B dX10_later_19 (by decide) (fun c => ?_) (fun c => ?_)
      · replace h := h_neg (b2i_0 c) h
        refine j_iconst B dX10_later_32 (v := (-1)) (by decide) ?_
        obtain ⟨e1, e2⟩ := Prod.mk.inj (Option.some.inj h)
        subst e1
        subst e2
        exact j_iret B E rfl dX10_later_33 (Nat.le_refl _) (Nat.le_refl _) ⟨rfl, rfl, rfl, rfl⟩
      · replace h := h_pos (b2i_1 c) h
        refine j_iload B dX10_later_22 4 rfl ?_
        refine j_iconst B dX10_later_24 (v := 0) (by decide) ?_
        refine j_iconst B dX10_later_25 (v := 4) (by decide) ?_
        obtain ⟨r4, hr4, h⟩ := h_bind h
        refine j_cSI (rest := []) B (tX10_in hr4) jt_RX10_124 wst_X10_in rfl (by decide) (Nat.le_refl _) (Nat.le_refl _) rfl (Nat.le_of_ble_eq_true rfl) dX10_later_26 ?_
        refine j_if_ne (tgt := 34) B dX10_later_29 (by decide) (fun c => ?_) (fun c => ?_)
        · replace h := h_pos (b2i_1 c) h
          refine j_aload_n B dX10_later_34 rfl 0 rfl ?_
          refine j_iload_n B dX10_later_35 rfl 1 rfl ?_
          obtain ⟨r5, hr5, h⟩ := h_bind h
          refine j_cVI (rest := []) B (tX10_rowFault hW hr5) cls10 (wf_65 hW) jt_RX10_287 wi_X10_rowFault ws_X10_rowFault rfl (by decide) (Nat.le_refl _) (Nat.le_refl _) rfl (Nat.le_of_ble_eq_true rfl) dX10_later_36 ?_
          refine j_if_ge (tgt := 48) B dX10_later_39 (by decide) (fun c => ?_) (fun c => ?_)
          · replace h := h_pos c h
            refine j_aload_n B dX10_later_48 rfl 0 rfl ?_
            refine j_iload_n B dX10_later_49 rfl 1 rfl ?_
            refine j_iload_n B dX10_later_50 rfl 2 rfl ?_
            refine j_iload_n B dX10_later_51 rfl 3 rfl ?_
            obtain ⟨r6, hr6, h⟩ := h_bind h
            refine j_cVV (rest := []) B (tX10_goBook hW hr6) cls10 (wf_65 hW) jt_RX10_290 wi_X10_goBook ws_X10_goBook rfl (by decide) (Nat.le_refl _) (Nat.le_refl _) rfl (Nat.le_of_ble_eq_true rfl) dX10_later_52 ?_
            refine j_iload B dX10_later_55 4 rfl ?_
            by_cases c0 : x4 = 0
            · replace h := h_pos c0 h
              refine j_tableIn (off := 31) (tgt := 88) B dX10_later_57 (by rw [c0]; decide) (by rw [c0]; decide) (by rw [c0]; decide) (by decide) ?_
              refine j_aload_n B dX10_later_88 rfl 0 rfl ?_
              refine gf_RX10_173 B rfl (wf_65 hW) dX10_later_89 ?_
              obtain ⟨e1, e2⟩ := Prod.mk.inj (Option.some.inj h)
              subst e1
              subst e2
              exact j_iret B E rfl dX10_later_92 (Nat.le_refl _) (Nat.le_refl _) ⟨rfl, rfl, rfl, rfl⟩
            replace h := h_neg c0 h
            by_cases c1 : x4 = 1
            · replace h := h_pos c1 h
              refine j_tableIn (off := 36) (tgt := 93) B dX10_later_57 (by rw [c1]; decide) (by rw [c1]; decide) (by rw [c1]; decide) (by decide) ?_
              refine j_aload_n B dX10_later_93 rfl 0 rfl ?_
              obtain ⟨r7, hr7, h⟩ := h_bind h
              refine j_cVI (rest := []) B (tX10_allThick hW hr7) cls10 (wf_65 hW) jt_RX10_176 wi_X10_allThick ws_X10_allThick rfl (by decide) (Nat.le_refl _) (Nat.le_refl _) rfl (Nat.le_of_ble_eq_true rfl) dX10_later_94 ?_
              obtain ⟨e1, e2⟩ := Prod.mk.inj (Option.some.inj h)
              subst e1
              subst e2
              exact j_iret B E rfl dX10_later_97 (Nat.le_refl _) (Nat.le_refl _) ⟨rfl, rfl, rfl, rfl⟩
            replace h := h_neg c1 h
            by_cases c2 : x4 = 2
            · replace h := h_pos c2 h
              refine j_tableIn (off := 41) (tgt := 98) B dX10_later_57 (by rw [c2]; decide) (by rw [c2]; decide) (by rw [c2]; decide) (by decide) ?_
              refine j_aload_n B dX10_later_98 rfl 0 rfl ?_
              obtain ⟨r8, hr8, h⟩ := h_bind h
              refine j_cVI (rest := []) B (tX10_readNow hW hr8) cls10 (wf_65 hW) jt_RX10_293 wi_X10_readNow ws_X10_readNow rfl (by decide) (Nat.le_refl _) (Nat.le_refl _) rfl (Nat.le_of_ble_eq_true rfl) dX10_later_99 ?_
              obtain ⟨e1, e2⟩ := Prod.mk.inj (Option.some.inj h)
              subst e1
              subst e2
              exact j_iret B E rfl dX10_later_102 (Nat.le_refl _) (Nat.le_refl _) ⟨rfl, rfl, rfl, rfl⟩
            replace h := h_neg c2 h
            by_cases c3 : x4 = 3
            · replace h := h_pos c3 h
              refine j_tableIn (off := 46) (tgt := 103) B dX10_later_57 (by rw [c3]; decide) (by rw [c3]; decide) (by rw [c3]; decide) (by decide) ?_
              refine j_aload_n B dX10_later_103 rfl 0 rfl ?_
              obtain ⟨r9, hr9, h⟩ := h_bind h
              refine j_cVI (rest := []) B (tX10_mostNow hW hr9) cls10 (wf_65 hW) jt_RX10_296 wi_X10_mostNow ws_X10_mostNow rfl (by decide) (Nat.le_refl _) (Nat.le_refl _) rfl (Nat.le_of_ble_eq_true rfl) dX10_later_104 ?_
              obtain ⟨e1, e2⟩ := Prod.mk.inj (Option.some.inj h)
              subst e1
              subst e2
              exact j_iret B E rfl dX10_later_107 (Nat.le_refl _) (Nat.le_refl _) ⟨rfl, rfl, rfl, rfl⟩
            replace h := h_neg c3 h
            refine j_tableOut (tgt := 108) B dX10_later_57 (by have n0 := lv_neT c0 (a := 0) (by decide); have n1 := lv_neT c1 (a := 1) (by decide); have n2 := lv_neT c2 (a := 2) (by decide); have n3 := lv_neT c3 (a := 3) (by decide); omega) (by decide) ?_
            refine j_aload_n B dX10_later_108 rfl 0 rfl ?_
            refine gf_RX10_278 B rfl (wf_65 hW) dX10_later_109 ?_
            obtain ⟨e1, e2⟩ := Prod.mk.inj (Option.some.inj h)
            subst e1
            subst e2
            exact j_iret B E rfl dX10_later_112 (Nat.le_refl _) (Nat.le_refl _) ⟨rfl, rfl, rfl, rfl⟩
          · replace h := h_neg c h
            refine j_aload_n B dX10_later_42 rfl 0 rfl ?_
            refine j_iload_n B dX10_later_43 rfl 1 rfl ?_
            obtain ⟨r10, hr10, h⟩ := h_bind h
            refine j_cVI (rest := []) B (tX10_rowFault hW hr10) cls10 (wf_65 hW) jt_RX10_287 wi_X10_rowFault ws_X10_rowFault rfl (by decide) (Nat.le_refl _) (Nat.le_refl _) rfl (Nat.le_of_ble_eq_true rfl) dX10_later_44 ?_
            obtain ⟨e1, e2⟩ := Prod.mk.inj (Option.some.inj h)
            subst e1
            subst e2
            exact j_iret B E rfl dX10_later_47 (Nat.le_refl _) (Nat.le_refl _) ⟨rfl, rfl, rfl, rfl⟩
        · replace h := h_neg (b2i_0 c) h
          refine j_iconst B dX10_later_32 (v := (-1)) (by decide) ?_
          obtain ⟨e1, e2⟩ := Prod.mk.inj (Option.some.inj h)
          subst e1
          subst e2
          exact j_iret B E rfl dX10_later_33 (Nat.le_refl _) (Nat.le_refl _) ⟨rfl, rfl, rfl, rfl⟩
def fX10_fromAbove_56 (vi0 : VI) (k9 : Int32 → Int32 → Int32 → Option (Int32)) (x1 : Int32) (x2 : Int32) (x3 : Int32) : Option (Int32) := k9 x1 x2 (x3 + (-1))
theorem tX10_fromAbove_56 {G : GT} {sv : SV} {vi0 : VI} {vl0 : VL} {ns : Nat} {Γ : CT} {r : Int32} {k9 : Int32 → Int32 → Int32 → Option (Int32)} (B : Base G Γ mX10_fromAbove 1 0 0) (E : Ends G Γ 0 0 (QI r sv vi0 vl0)) (hW : WF sv ns) (hk9 : ∀ (x1 : Int32) (x2 : Int32) (x3 : Int32), k9 x1 x2 x3 = some (r) → J G Γ 0 0 9 [(0, .ref (G.1 + 63)), (1, .int x1), (2, .int x2), (3, .int x3)] [] sv vi0 vl0) : ∀ (x1 : Int32) (x2 : Int32) (x3 : Int32), fX10_fromAbove_56 vi0 k9 x1 x2 x3 = some (r) → J G Γ 0 0 56 [(0, .ref (G.1 + 63)), (1, .int x1), (2, .int x2), (3, .int x3)] [] sv vi0 vl0 := by
  intro x1 x2 x3  h
  unfold fX10_fromAbove_56 at h
  refine j_iinc (v := (x3 + (-1))) (L' := [(3, .int (x3 + (-1))), (0, .ref (G.1 + 63)), (1, .int x1), (2, .int x2)]) B dX10_fromAbove_56 3 rfl rfl (by decide) rfl ?_
  refine j_goto (tgt := 9) B dX10_fromAbove_59 (by decide) ?_
  refine j_locals [1, 2, 3, 0] rfl ?_
  exact hk9 (x1) (x2) ((x3 + (-1)))  h
def fX10_fromAbove_9 (vi0 : VI) : Nat → Int32 → Int32 → Int32 → Option (Int32)
  | 0, _, _, _ => none
  | F + 1, x1, x2, x3 => if x3 < 0 then some ((-2)) else if inb x3 13 = true then if ((x2 >>> ((vi0 82 x3.toNatClampNeg) &&& 31)) &&& 1) = 1 then fX10_fromAbove_56 vi0 (fX10_fromAbove_9 vi0 F) x1 x2 x3 else (fX10_bitsOf x2).bind fun r2 => if r2 = x1 then if inb x3 13 = true then some ((vi0 82 x3.toNatClampNeg)) else none else if inb x3 13 = true then fX10_fromAbove_56 vi0 (fX10_fromAbove_9 vi0 F) x1 (x2 ||| ((1 : Int32) <<< ((vi0 82 x3.toNatClampNeg) &&& 31))) x3 else none else none
theorem tX10_fromAbove_9 {G : GT} {sv : SV} {vi0 : VI} {vl0 : VL} {ns : Nat} {Γ : CT} {r : Int32} (B : Base G Γ mX10_fromAbove 1 0 0) (E : Ends G Γ 0 0 (QI r sv vi0 vl0)) (hW : WF sv ns) : ∀ (F : Nat) (x1 : Int32) (x2 : Int32) (x3 : Int32), fX10_fromAbove_9 vi0 F x1 x2 x3 = some (r) → J G Γ 0 0 9 [(0, .ref (G.1 + 63)), (1, .int x1), (2, .int x2), (3, .int x3)] [] sv vi0 vl0 := by
  intro F
  induction F with
  | zero =>
    intro x1 x2 x3  h
    cases (show (none : Option (Int32)) = some (r) from h)
  | succ F ih =>
    intro x1 x2 x3  h
    rw [fX10_fromAbove_9] at h
    refine j_iload_n B dX10_fromAbove_9 rfl 3 rfl ?_
    refine j_if_lt (tgt := 62) B dX10_fromAbove_10 (by decide) (fun c => ?_) (fun c => ?_)
    · replace h := h_pos c h
      refine j_bipush B dX10_fromAbove_62 (v := (-2)) (by decide) ?_
      have e1 := Option.some.inj h
      subst e1
      exact j_iret B E rfl dX10_fromAbove_64 (Nat.le_refl _) (Nat.le_refl _) ⟨rfl, rfl, rfl, rfl⟩
    · replace h := h_neg c h
      refine j_iload_n B dX10_fromAbove_13 rfl 2 rfl ?_
      refine j_aload_n B dX10_fromAbove_14 rfl 0 rfl ?_
      refine gf_RX10_68 B rfl (wf_65 hW) (wf_180 hW) dX10_fromAbove_15 ?_
      refine j_iload_n B dX10_fromAbove_18 rfl 3 rfl ?_
      obtain ⟨b1, h⟩ := h_inb h
      refine j_iald B ((wf_84 hW)) b1 dX10_fromAbove_19 ?_
      refine j_ishr B dX10_fromAbove_20 ?_
      refine j_iconst B dX10_fromAbove_21 (v := 1) (by decide) ?_
      refine j_iand B dX10_fromAbove_22 ?_
      refine j_iconst B dX10_fromAbove_23 (v := 1) (by decide) ?_
      refine j_icmp_ne (tgt := 30) B dX10_fromAbove_24 (by decide) (fun c => ?_) (fun c => ?_)
      · replace h := h_neg c h
        refine j_iload_n B dX10_fromAbove_30 rfl 2 rfl ?_
        obtain ⟨r2, hr2, h⟩ := h_bind h
        refine j_cSI (rest := []) B (tX10_bitsOf hr2) jt_RX10_299 wst_X10_bitsOf rfl (by decide) (Nat.le_refl _) (Nat.le_refl _) rfl (Nat.le_of_ble_eq_true rfl) dX10_fromAbove_31 ?_
        refine j_iload_n B dX10_fromAbove_34 rfl 1 rfl ?_
        refine j_icmp_ne (tgt := 45) B dX10_fromAbove_35 (by decide) (fun c => ?_) (fun c => ?_)
        · replace h := h_neg c h
          refine j_iload_n B dX10_fromAbove_45 rfl 2 rfl ?_
          refine j_iconst B dX10_fromAbove_46 (v := 1) (by decide) ?_
          refine j_aload_n B dX10_fromAbove_47 rfl 0 rfl ?_
          refine gf_RX10_68 B rfl (wf_65 hW) (wf_180 hW) dX10_fromAbove_48 ?_
          refine j_iload_n B dX10_fromAbove_51 rfl 3 rfl ?_
          obtain ⟨b3, h⟩ := h_inb h
          refine j_iald B ((wf_84 hW)) b3 dX10_fromAbove_52 ?_
          refine j_ishl B dX10_fromAbove_53 ?_
          refine j_ior B dX10_fromAbove_54 ?_
          refine j_istore_n (L' := [(2, .int (x2 ||| ((1 : Int32) <<< ((vi0 82 x3.toNatClampNeg) &&& 31)))), (0, .ref (G.1 + 63)), (1, .int x1), (3, .int x3)]) B dX10_fromAbove_55 rfl (by decide) rfl ?_
          refine j_locals [1, 2, 0, 3] rfl ?_
          exact tX10_fromAbove_56 B E hW ih (x1) ((x2 ||| ((1 : Int32) <<< ((vi0 82 x3.toNatClampNeg) &&& 31)))) (x3)  h
        · replace h := h_pos c h
          refine j_aload_n B dX10_fromAbove_38 rfl 0 rfl ?_
          refine gf_RX10_68 B rfl (wf_65 hW) (wf_180 hW) dX10_fromAbove_39 ?_
          refine j_iload_n B dX10_fromAbove_42 rfl 3 rfl ?_
          obtain ⟨b4, h⟩ := h_inb h
          refine j_iald B ((wf_84 hW)) b4 dX10_fromAbove_43 ?_
          have e1 := Option.some.inj h
          subst e1
          exact j_iret B E rfl dX10_fromAbove_44 (Nat.le_refl _) (Nat.le_refl _) ⟨rfl, rfl, rfl, rfl⟩
      · replace h := h_pos c h
        refine j_goto (tgt := 56) B dX10_fromAbove_27 (by decide) ?_
        refine j_locals [0, 1, 2, 3] rfl ?_
        exact tX10_fromAbove_56 B E hW ih (x1) (x2) (x3)  h
def fX10_fromAbove (x1 : Int32) (vi0 : VI) : Option (Int32) := fX10_fromAbove_9 vi0 FU x1 0 ((vi0 63 30) - 1)
theorem tX10_fromAbove {G : GT} {sv : SV} {vi0 : VI} {vl0 : VL} {ns : Nat} {x1 : Int32} {r : Int32} (hW : WF sv ns) (h : fX10_fromAbove x1 vi0 = some (r)) : Call G mX10_fromAbove 1 0 0 [.ref (G.1 + 63), .int x1] sv vi0 vl0 (QI r sv vi0 vl0) := by
  refine j_mk (by decide +kernel) (Nat.le_of_ble_eq_true rfl) (fun Γ B E => ?_)
  show J G Γ 0 0 0 [(0, .ref (G.1 + 63)), (1, .int x1)] [] sv vi0 vl0
  unfold fX10_fromAbove at h
  refine j_iconst B dX10_fromAbove_0 (v := 0) (by decide) ?_
  refine j_istore_n (L' := [(2, .int 0), (0, .ref (G.1 + 63)), (1, .int x1)]) B dX10_fromAbove_1 rfl (by decide) rfl ?_
  refine j_aload_n B dX10_fromAbove_2 rfl 1 rfl ?_
  refine gf_RX10_173 B rfl (wf_65 hW) dX10_fromAbove_3 ?_
  refine j_iconst B dX10_fromAbove_6 (v := 1) (by decide) ?_
  refine j_isub B dX10_fromAbove_7 ?_
  refine j_istore_n (L' := [(3, .int ((vi0 63 30) - 1)), (2, .int 0), (0, .ref (G.1 + 63)), (1, .int x1)]) B dX10_fromAbove_8 rfl (by decide) rfl ?_
  refine j_locals [2, 3, 1, 0] rfl ?_
  exact tX10_fromAbove_9 B E hW FU (x1) (0) (((vi0 63 30) - 1))  h
def fX10_laid (x1 : Int32) (x2 : Int32) (x3 : Int32) (x4 : Int32) (vi0 : VI) (vl0 : VL) : Option (Int32 × VI) := (fX10_isShelf x1).bind fun r1 => if r1 = true then (fX10_areMany x2).bind fun r2 => if r2 = true then (fX10_isSill x3 vi0).bind fun r3 => if r3 = true then if x4 < 0 then some ((-1), vi0) else if (x4 - x4 / 10 * 10) ≤ 2 then (fX10_rowFault x1 vi0).bind fun r4 => if 0 ≤ r4 then (fX10_goBook x1 x2 x3 vi0 vl0).bind fun r5 => if (x4 - x4 / 10 * 10) = 2 then (fX10_fromAbove (x4 / 10) r5).bind fun r8 => some (r8, r5) else if (x4 / 10) < (r5 63 30) then if (x4 - x4 / 10 * 10) = 0 then if inb (x4 / 10) 13 = true then some ((r5 82 (x4 / 10).toNatClampNeg), r5) else none else if inb (x4 / 10) 13 = true then some ((r5 83 (x4 / 10).toNatClampNeg), r5) else none else some ((-2), r5) else (fX10_rowFault x1 vi0).bind fun r9 => some (r9, vi0) else some ((-1), vi0) else some ((-1), vi0) else some ((-1), vi0) else some ((-1), vi0)
theorem tX10_laid {G : GT} {sv : SV} {vi0 : VI} {vl0 : VL} {ns : Nat} {x1 : Int32} {x2 : Int32} {x3 : Int32} {x4 : Int32} {r : Int32} {vi' : VI} (hW : WF sv ns) (h : fX10_laid x1 x2 x3 x4 vi0 vl0 = some (r, vi')) : Call G mX10_laid 6 0 0 [.ref (G.1 + 63), .int x1, .int x2, .int x3, .int x4] sv vi0 vl0 (QI r sv vi' vl0) := by
  refine j_mk (by decide +kernel) (Nat.le_of_ble_eq_true rfl) (fun Γ B E => ?_)
  show J G Γ 0 0 0 [(0, .ref (G.1 + 63)), (1, .int x1), (2, .int x2), (3, .int x3), (4, .int x4)] [] sv vi0 vl0
  unfold fX10_laid at h
  refine j_iload_n B dX10_laid_0 rfl 1 rfl ?_
  obtain ⟨r1, hr1, h⟩ := h_bind h
  refine j_cSI (rest := []) B (tX10_isShelf hr1) jt_RX10_132 wst_X10_isShelf rfl (by decide) (Nat.le_refl _) (Nat.le_refl _) rfl (Nat.le_of_ble_eq_true rfl) dX10_laid_1 ?_
  refine j_if_eq (tgt := 36) B dX10_laid_4 (by decide) (fun c => ?_) (fun c => ?_)
  · replace h := h_neg (b2i_0 c) h
    refine j_iconst B dX10_laid_36 (v := (-1)) (by decide) ?_
    obtain ⟨e1, e2⟩ := Prod.mk.inj (Option.some.inj h)
    subst e1
    subst e2
    exact j_iret B E rfl dX10_laid_37 (Nat.le_refl _) (Nat.le_refl _) ⟨rfl, rfl, rfl, rfl⟩
  · replace h := h_pos (b2i_1 c) h
    refine j_iload_n B dX10_laid_7 rfl 2 rfl ?_
    obtain ⟨r2, hr2, h⟩ := h_bind h
    refine j_cSI (rest := []) B (tX10_areMany hr2) jt_RX10_284 wst_X10_areMany rfl (by decide) (Nat.le_refl _) (Nat.le_refl _) rfl (Nat.le_of_ble_eq_true rfl) dX10_laid_8 ?_
    refine j_if_eq (tgt := 36) B dX10_laid_11 (by decide) (fun c => ?_) (fun c => ?_)
    · replace h := h_neg (b2i_0 c) h
      refine j_iconst B dX10_laid_36 (v := (-1)) (by decide) ?_
      obtain ⟨e1, e2⟩ := Prod.mk.inj (Option.some.inj h)
      subst e1
      subst e2
      exact j_iret B E rfl dX10_laid_37 (Nat.le_refl _) (Nat.le_refl _) ⟨rfl, rfl, rfl, rfl⟩
    · replace h := h_pos (b2i_1 c) h
      refine j_aload_n B dX10_laid_14 rfl 0 rfl ?_
      refine j_iload_n B dX10_laid_15 rfl 3 rfl ?_
      obtain ⟨r3, hr3, h⟩ := h_bind h
      refine j_cVI (rest := []) B (tX10_isSill hW hr3) cls10 (wf_65 hW) jt_RX10_152 wi_X10_isSill ws_X10_isSill rfl (by decide) (Nat.le_refl _) (Nat.le_refl _) rfl (Nat.le_of_ble_eq_true rfl) dX10_laid_16 ?_
      refine j_if_eq (tgt := 36) B dX10_laid_19 (by decide) (fun c => ?_) (fun c => ?_)
      · replace h := h_neg (b2i_0 c) h
        refine j_iconst B dX10_laid_36 (v := (-1)) (by decide) ?_
        obtain ⟨e1, e2⟩ := Prod.mk.inj (Option.some.inj h)
        subst e1
        subst e2
        exact j_iret B E rfl dX10_laid_37 (Nat.le_refl _) (Nat.le_refl _) ⟨rfl, rfl, rfl, rfl⟩
      · replace h := h_pos (b2i_1 c) h
        refine j_iload B dX10_laid_22 4 rfl ?_
        refine j_if_lt (tgt := 36) B dX10_laid_24 (by decide) (fun c => ?_) (fun c => ?_)
        · replace h := h_pos c h
          refine j_iconst B dX10_laid_36 (v := (-1)) (by decide) ?_
          obtain ⟨e1, e2⟩ := Prod.mk.inj (Option.some.inj h)
          subst e1
          subst e2
          exact j_iret B E rfl dX10_laid_37 (Nat.le_refl _) (Nat.le_refl _) ⟨rfl, rfl, rfl, rfl⟩
        · replace h := h_neg c h
          refine j_iload B dX10_laid_27 4 rfl ?_
          refine j_bipush B dX10_laid_29 (v := 10) (by decide) ?_
          refine j_irem B dX10_laid_31 (by decide) ?_
          refine j_iconst B dX10_laid_32 (v := 2) (by decide) ?_
          refine j_icmp_le (tgt := 38) B dX10_laid_33 (by decide) (fun c => ?_) (fun c => ?_)
          · replace h := h_pos c h
            refine j_aload_n B dX10_laid_38 rfl 0 rfl ?_
            refine j_iload_n B dX10_laid_39 rfl 1 rfl ?_
            obtain ⟨r4, hr4, h⟩ := h_bind h
            refine j_cVI (rest := []) B (tX10_rowFault hW hr4) cls10 (wf_65 hW) jt_RX10_287 wi_X10_rowFault ws_X10_rowFault rfl (by decide) (Nat.le_refl _) (Nat.le_refl _) rfl (Nat.le_of_ble_eq_true rfl) dX10_laid_40 ?_
            refine j_if_ge (tgt := 52) B dX10_laid_43 (by decide) (fun c => ?_) (fun c => ?_)
            · replace h := h_pos c h
              refine j_aload_n B dX10_laid_52 rfl 0 rfl ?_
              refine j_iload_n B dX10_laid_53 rfl 1 rfl ?_
              refine j_iload_n B dX10_laid_54 rfl 2 rfl ?_
              refine j_iload_n B dX10_laid_55 rfl 3 rfl ?_
              obtain ⟨r5, hr5, h⟩ := h_bind h
              refine j_cVV (rest := []) B (tX10_goBook hW hr5) cls10 (wf_65 hW) jt_RX10_290 wi_X10_goBook ws_X10_goBook rfl (by decide) (Nat.le_refl _) (Nat.le_refl _) rfl (Nat.le_of_ble_eq_true rfl) dX10_laid_56 ?_
              refine j_iload B dX10_laid_59 4 rfl ?_
              refine j_bipush B dX10_laid_61 (v := 10) (by decide) ?_
              refine j_irem B dX10_laid_63 (by decide) ?_
              refine j_iconst B dX10_laid_64 (v := 2) (by decide) ?_
              refine j_icmp_ne (tgt := 78) B dX10_laid_65 (by decide) (fun c => ?_) (fun c => ?_)
              · replace h := h_neg c h
                refine j_iload B dX10_laid_78 4 rfl ?_
                refine j_bipush B dX10_laid_80 (v := 10) (by decide) ?_
                refine j_idiv B dX10_laid_82 (by decide) ?_
                refine j_aload_n B dX10_laid_83 rfl 0 rfl ?_
                refine gf_RX10_173 B rfl (wf_65 hW) dX10_laid_84 ?_
                refine j_icmp_lt (tgt := 93) B dX10_laid_87 (by decide) (fun c => ?_) (fun c => ?_)
                · replace h := h_pos c h
                  refine j_iload B dX10_laid_93 4 rfl ?_
                  refine j_bipush B dX10_laid_95 (v := 10) (by decide) ?_
                  refine j_irem B dX10_laid_97 (by decide) ?_
                  refine j_if_ne (tgt := 114) B dX10_laid_98 (by decide) (fun c => ?_) (fun c => ?_)
                  · replace h := h_neg c h
                    refine j_aload_n B dX10_laid_114 rfl 0 rfl ?_
                    refine gf_RX10_71 B rfl (wf_65 hW) (wf_181 hW) dX10_laid_115 ?_
                    refine j_iload B dX10_laid_118 4 rfl ?_
                    refine j_bipush B dX10_laid_120 (v := 10) (by decide) ?_
                    refine j_idiv B dX10_laid_122 (by decide) ?_
                    obtain ⟨b6, h⟩ := h_inb h
                    refine j_iald B ((wf_85 hW)) b6 dX10_laid_123 ?_
                    obtain ⟨e1, e2⟩ := Prod.mk.inj (Option.some.inj h)
                    subst e1
                    subst e2
                    exact j_iret B E rfl dX10_laid_124 (Nat.le_refl _) (Nat.le_refl _) ⟨rfl, rfl, rfl, rfl⟩
                  · replace h := h_pos c h
                    refine j_aload_n B dX10_laid_101 rfl 0 rfl ?_
                    refine gf_RX10_68 B rfl (wf_65 hW) (wf_180 hW) dX10_laid_102 ?_
                    refine j_iload B dX10_laid_105 4 rfl ?_
                    refine j_bipush B dX10_laid_107 (v := 10) (by decide) ?_
                    refine j_idiv B dX10_laid_109 (by decide) ?_
                    obtain ⟨b7, h⟩ := h_inb h
                    refine j_iald B ((wf_84 hW)) b7 dX10_laid_110 ?_
                    refine j_goto (tgt := 124) B dX10_laid_111 (by decide) ?_
                    obtain ⟨e1, e2⟩ := Prod.mk.inj (Option.some.inj h)
                    subst e1
                    subst e2
                    exact j_iret B E rfl dX10_laid_124 (Nat.le_refl _) (Nat.le_refl _) ⟨rfl, rfl, rfl, rfl⟩
                · replace h := h_neg c h
                  refine j_bipush B dX10_laid_90 (v := (-2)) (by decide) ?_
                  obtain ⟨e1, e2⟩ := Prod.mk.inj (Option.some.inj h)
                  subst e1
                  subst e2
                  exact j_iret B E rfl dX10_laid_92 (Nat.le_refl _) (Nat.le_refl _) ⟨rfl, rfl, rfl, rfl⟩
              · replace h := h_pos c h
                refine j_aload_n B dX10_laid_68 rfl 0 rfl ?_
                refine j_iload B dX10_laid_69 4 rfl ?_
                refine j_bipush B dX10_laid_71 (v := 10) (by decide) ?_
                refine j_idiv B dX10_laid_73 (by decide) ?_
                obtain ⟨r8, hr8, h⟩ := h_bind h
                refine j_cVI (rest := []) B (tX10_fromAbove hW hr8) cls10 (wf_65 hW) jt_RX10_302 wi_X10_fromAbove ws_X10_fromAbove rfl (by decide) (Nat.le_refl _) (Nat.le_refl _) rfl (Nat.le_of_ble_eq_true rfl) dX10_laid_74 ?_
                obtain ⟨e1, e2⟩ := Prod.mk.inj (Option.some.inj h)
                subst e1
                subst e2
                exact j_iret B E rfl dX10_laid_77 (Nat.le_refl _) (Nat.le_refl _) ⟨rfl, rfl, rfl, rfl⟩
            · replace h := h_neg c h
              refine j_aload_n B dX10_laid_46 rfl 0 rfl ?_
              refine j_iload_n B dX10_laid_47 rfl 1 rfl ?_
              obtain ⟨r9, hr9, h⟩ := h_bind h
              refine j_cVI (rest := []) B (tX10_rowFault hW hr9) cls10 (wf_65 hW) jt_RX10_287 wi_X10_rowFault ws_X10_rowFault rfl (by decide) (Nat.le_refl _) (Nat.le_refl _) rfl (Nat.le_of_ble_eq_true rfl) dX10_laid_48 ?_
              obtain ⟨e1, e2⟩ := Prod.mk.inj (Option.some.inj h)
              subst e1
              subst e2
              exact j_iret B E rfl dX10_laid_51 (Nat.le_refl _) (Nat.le_refl _) ⟨rfl, rfl, rfl, rfl⟩
          · replace h := h_neg c h
            refine j_iconst B dX10_laid_36 (v := (-1)) (by decide) ?_
            obtain ⟨e1, e2⟩ := Prod.mk.inj (Option.some.inj h)
            subst e1
            subst e2
            exact j_iret B E rfl dX10_laid_37 (Nat.le_refl _) (Nat.le_refl _) ⟨rfl, rfl, rfl, rfl⟩
def fX10_goBreath_51  (x1 : Int32) (x2 : Int32) (vi : VI) : Option (Int32 × VI) := if (vi 63 30) = 0 then some ((x1 - x2), vi) else if inb ((vi 63 30) - 1) 13 = true then if inb ((vi 63 30) - 1) 13 = true then some (x1, (j_up vi 83 ((vi 63 30) - 1).toNatClampNeg ((vi 83 ((vi 63 30) - 1).toNatClampNeg) - x2))) else none else none
theorem tX10_goBreath_51 {G : GT} {sv : SV} {vl0 : VL} {ns : Nat} {Γ : CT} {r : Int32} {vi' : VI} (B : Base G Γ mX10_goBreath 0 0 0) (E : Ends G Γ 0 0 (QI r sv vi' vl0)) (hW : WF sv ns) : ∀ (x1 : Int32) (x2 : Int32) (vi : VI), fX10_goBreath_51  x1 x2 vi = some (r, vi') → J G Γ 0 0 51 [(0, .ref (G.1 + 63)), (1, .int x1), (2, .int x2)] [] sv vi vl0 := by
  intro x1 x2 vi  h
  unfold fX10_goBreath_51 at h
  refine j_aload_n B dX10_goBreath_51 rfl 0 rfl ?_
  refine gf_RX10_173 B rfl (wf_65 hW) dX10_goBreath_52 ?_
  refine j_if_ne (tgt := 62) B dX10_goBreath_55 (by decide) (fun c => ?_) (fun c => ?_)
  · replace h := h_neg c h
    refine j_aload_n B dX10_goBreath_62 rfl 0 rfl ?_
    refine gf_RX10_71 B rfl (wf_65 hW) (wf_181 hW) dX10_goBreath_63 ?_
    refine j_aload_n B dX10_goBreath_66 rfl 0 rfl ?_
    refine gf_RX10_173 B rfl (wf_65 hW) dX10_goBreath_67 ?_
    refine j_iconst B dX10_goBreath_70 (v := 1) (by decide) ?_
    refine j_isub B dX10_goBreath_71 ?_
    refine j_dup2 B dX10_goBreath_72 rfl rfl ?_
    obtain ⟨b1, h⟩ := h_inb h
    refine j_iald B ((wf_85 hW)) b1 dX10_goBreath_73 ?_
    refine j_iload_n B dX10_goBreath_74 rfl 2 rfl ?_
    refine j_isub B dX10_goBreath_75 ?_
    obtain ⟨b2, h⟩ := h_inb h
    refine j_iast B ((wf_85 hW)) b2 dX10_goBreath_76 ?_
    refine j_iload_n B dX10_goBreath_77 rfl 1 rfl ?_
    obtain ⟨e1, e2⟩ := Prod.mk.inj (Option.some.inj h)
    subst e1
    subst e2
    exact j_iret B E rfl dX10_goBreath_78 (Nat.le_refl _) (Nat.le_refl _) ⟨rfl, rfl, rfl, rfl⟩
  · replace h := h_pos c h
    refine j_iload_n B dX10_goBreath_58 rfl 1 rfl ?_
    refine j_iload_n B dX10_goBreath_59 rfl 2 rfl ?_
    refine j_isub B dX10_goBreath_60 ?_
    obtain ⟨e1, e2⟩ := Prod.mk.inj (Option.some.inj h)
    subst e1
    subst e2
    exact j_iret B E rfl dX10_goBreath_61 (Nat.le_refl _) (Nat.le_refl _) ⟨rfl, rfl, rfl, rfl⟩
def fX10_goBreath_2  : Nat → Int32 → Int32 → VI → Option (Int32 × VI)
  | 0, _, _, _ => none
  | F + 1, x1, x2, vi => if (vi 63 30) ≤ 0 then fX10_goBreath_51  x1 x2 vi else if inb ((vi 63 30) - 1) 13 = true then if x2 < (vi 83 ((vi 63 30) - 1).toNatClampNeg) then fX10_goBreath_51  x1 x2 vi else if inb ((vi 63 30) - 1) 13 = true then fX10_goBreath_2  F x1 (x2 - (vi 83 ((vi 63 30) - 1).toNatClampNeg)) (j_up vi 63 30 ((vi 63 30) - 1)) else none else none
theorem tX10_goBreath_2 {G : GT} {sv : SV} {vl0 : VL} {ns : Nat} {Γ : CT} {r : Int32} {vi' : VI} (B : Base G Γ mX10_goBreath 0 0 0) (E : Ends G Γ 0 0 (QI r sv vi' vl0)) (hW : WF sv ns) : ∀ (F : Nat) (x1 : Int32) (x2 : Int32) (vi : VI), fX10_goBreath_2  F x1 x2 vi = some (r, vi') → J G Γ 0 0 2 [(0, .ref (G.1 + 63)), (1, .int x1), (2, .int x2)] [] sv vi vl0 := by
  intro F
  induction F with
  | zero =>
    intro x1 x2 vi  h
    cases (show (none : Option (Int32 × VI)) = some (r, vi') from h)
  | succ F ih =>
    intro x1 x2 vi  h
    rw [fX10_goBreath_2] at h
    refine j_aload_n B dX10_goBreath_2 rfl 0 rfl ?_
    refine gf_RX10_173 B rfl (wf_65 hW) dX10_goBreath_3 ?_
    refine j_if_le (tgt := 51) B dX10_goBreath_6 (by decide) (fun c => ?_) (fun c => ?_)
    · replace h := h_pos c h
      refine j_locals [0, 1, 2] rfl ?_
      exact tX10_goBreath_51 B E hW (x1) (x2) (vi)  h
    · replace h := h_neg c h
      refine j_aload_n B dX10_goBreath_9 rfl 0 rfl ?_
      refine gf_RX10_71 B rfl (wf_65 hW) (wf_181 hW) dX10_goBreath_10 ?_
      refine j_aload_n B dX10_goBreath_13 rfl 0 rfl ?_
      refine gf_RX10_173 B rfl (wf_65 hW) dX10_goBreath_14 ?_
      refine j_iconst B dX10_goBreath_17 (v := 1) (by decide) ?_
      refine j_isub B dX10_goBreath_18 ?_
      obtain ⟨b3, h⟩ := h_inb h
      refine j_iald B ((wf_85 hW)) b3 dX10_goBreath_19 ?_
      refine j_iload_n B dX10_goBreath_20 rfl 2 rfl ?_
      refine j_icmp_gt (tgt := 51) B dX10_goBreath_21 (by decide) (fun c => ?_) (fun c => ?_)
      · replace h := h_pos c h
        refine j_locals [0, 1, 2] rfl ?_
        exact tX10_goBreath_51 B E hW (x1) (x2) (vi)  h
      · replace h := h_neg c h
        refine j_iload_n B dX10_goBreath_24 rfl 2 rfl ?_
        refine j_aload_n B dX10_goBreath_25 rfl 0 rfl ?_
        refine gf_RX10_71 B rfl (wf_65 hW) (wf_181 hW) dX10_goBreath_26 ?_
        refine j_aload_n B dX10_goBreath_29 rfl 0 rfl ?_
        refine gf_RX10_173 B rfl (wf_65 hW) dX10_goBreath_30 ?_
        refine j_iconst B dX10_goBreath_33 (v := 1) (by decide) ?_
        refine j_isub B dX10_goBreath_34 ?_
        obtain ⟨b4, h⟩ := h_inb h
        refine j_iald B ((wf_85 hW)) b4 dX10_goBreath_35 ?_
        refine j_isub B dX10_goBreath_36 ?_
        refine j_istore_n (L' := [(2, .int (x2 - (vi 83 ((vi 63 30) - 1).toNatClampNeg))), (0, .ref (G.1 + 63)), (1, .int x1)]) B dX10_goBreath_37 rfl (by decide) rfl ?_
        refine j_aload_n B dX10_goBreath_38 rfl 1 rfl ?_
        refine j_dup B dX10_goBreath_39 rfl ?_
        refine gf_RX10_173 B rfl (wf_65 hW) dX10_goBreath_40 ?_
        refine j_iconst B dX10_goBreath_43 (v := 1) (by decide) ?_
        refine j_isub B dX10_goBreath_44 ?_
        refine pf_RX10_173 B rfl (wf_65 hW) dX10_goBreath_45 ?_
        refine j_goto (tgt := 2) B dX10_goBreath_48 (by decide) ?_
        refine j_locals [1, 2, 0] rfl ?_
        exact ih (x1) ((x2 - (vi 83 ((vi 63 30) - 1).toNatClampNeg))) ((j_up vi 63 30 ((vi 63 30) - 1)))  h
def fX10_goBreath (x1 : Int32) (vi0 : VI) : Option (Int32 × VI) := fX10_goBreath_2  FU x1 x1 vi0
theorem tX10_goBreath {G : GT} {sv : SV} {vi0 : VI} {vl0 : VL} {ns : Nat} {x1 : Int32} {r : Int32} {vi' : VI} (hW : WF sv ns) (h : fX10_goBreath x1 vi0 = some (r, vi')) : Call G mX10_goBreath 0 0 0 [.ref (G.1 + 63), .int x1] sv vi0 vl0 (QI r sv vi' vl0) := by
  refine j_mk (by decide +kernel) (Nat.le_of_ble_eq_true rfl) (fun Γ B E => ?_)
  show J G Γ 0 0 0 [(0, .ref (G.1 + 63)), (1, .int x1)] [] sv vi0 vl0
  unfold fX10_goBreath at h
  refine j_iload_n B dX10_goBreath_0 rfl 1 rfl ?_
  refine j_istore_n (L' := [(2, .int x1), (0, .ref (G.1 + 63)), (1, .int x1)]) B dX10_goBreath_1 rfl (by decide) rfl ?_
  refine j_locals [1, 2, 0] rfl ?_
  exact tX10_goBreath_2 B E hW FU (x1) (x1) (vi0)  h
def fX10_breath (x1 : Int32) (x2 : Int32) (x3 : Int32) (vi0 : VI) : Option (Int32 × VI) := (fX10_isSill x1 vi0).bind fun r1 => if r1 = true then (fX10_in x2 0 99).bind fun r2 => if r2 = true then (fX10_in x3 0 1).bind fun r3 => if r3 = true then (fX10_layNow x1 vi0).bind fun r4 => (fX10_goBreath x2 r4).bind fun r5 => if x3 = 1 then some ((r5.2 63 30), r5.2) else if (r5.2 63 30) = 0 then some ((-2), r5.2) else if inb ((r5.2 63 30) - 1) 13 = true then some ((r5.2 82 ((r5.2 63 30) - 1).toNatClampNeg), r5.2) else none else some ((-1), vi0) else some ((-1), vi0) else some ((-1), vi0)
theorem tX10_breath {G : GT} {sv : SV} {vi0 : VI} {vl0 : VL} {ns : Nat} {x1 : Int32} {x2 : Int32} {x3 : Int32} {r : Int32} {vi' : VI} (hW : WF sv ns) (h : fX10_breath x1 x2 x3 vi0 = some (r, vi')) : Call G mX10_breath 2 0 0 [.ref (G.1 + 63), .int x1, .int x2, .int x3] sv vi0 vl0 (QI r sv vi' vl0) := by
  refine j_mk (by decide +kernel) (Nat.le_of_ble_eq_true rfl) (fun Γ B E => ?_)
  show J G Γ 0 0 0 [(0, .ref (G.1 + 63)), (1, .int x1), (2, .int x2), (3, .int x3)] [] sv vi0 vl0
  unfold fX10_breath at h
  refine j_aload_n B dX10_breath_0 rfl 0 rfl ?_
  refine j_iload_n B dX10_breath_1 rfl 1 rfl ?_
  obtain ⟨r1, hr1, h⟩ := h_bind h
  refine j_cVI (rest := []) B (tX10_isSill hW hr1) cls10 (wf_65 hW) jt_RX10_152 wi_X10_isSill ws_X10_isSill rfl (by decide) (Nat.le_refl _) (Nat.le_refl _) rfl (Nat.le_of_ble_eq_true rfl) dX10_breath_2 ?_
  refine j_if_eq (tgt := 27) B dX10_breath_5 (by decide) (fun c => ?_) (fun c => ?_)
  · replace h := h_neg (b2i_0 c) h
    refine j_iconst B dX10_breath_27 (v := (-1)) (by decide) ?_
    obtain ⟨e1, e2⟩ := Prod.mk.inj (Option.some.inj h)
    subst e1
    subst e2
    exact j_iret B E rfl dX10_breath_28 (Nat.le_refl _) (Nat.le_refl _) ⟨rfl, rfl, rfl, rfl⟩
  · replace h := h_pos (b2i_1 c) h
    refine j_iload_n B dX10_breath_8 rfl 2 rfl ?_
    refine j_iconst B dX10_breath_9 (v := 0) (by decide) ?_
    refine j_bipush B dX10_breath_10 (v := 99) (by decide) ?_
    obtain ⟨r2, hr2, h⟩ := h_bind h
    refine j_cSI (rest := []) B (tX10_in hr2) jt_RX10_124 wst_X10_in rfl (by decide) (Nat.le_refl _) (Nat.le_refl _) rfl (Nat.le_of_ble_eq_true rfl) dX10_breath_12 ?_
    refine j_if_eq (tgt := 27) B dX10_breath_15 (by decide) (fun c => ?_) (fun c => ?_)
    · replace h := h_neg (b2i_0 c) h
      refine j_iconst B dX10_breath_27 (v := (-1)) (by decide) ?_
      obtain ⟨e1, e2⟩ := Prod.mk.inj (Option.some.inj h)
      subst e1
      subst e2
      exact j_iret B E rfl dX10_breath_28 (Nat.le_refl _) (Nat.le_refl _) ⟨rfl, rfl, rfl, rfl⟩
    · replace h := h_pos (b2i_1 c) h
      refine j_iload_n B dX10_breath_18 rfl 3 rfl ?_
      refine j_iconst B dX10_breath_19 (v := 0) (by decide) ?_
      refine j_iconst B dX10_breath_20 (v := 1) (by decide) ?_
      obtain ⟨r3, hr3, h⟩ := h_bind h
      refine j_cSI (rest := []) B (tX10_in hr3) jt_RX10_124 wst_X10_in rfl (by decide) (Nat.le_refl _) (Nat.le_refl _) rfl (Nat.le_of_ble_eq_true rfl) dX10_breath_21 ?_
      refine j_if_ne (tgt := 29) B dX10_breath_24 (by decide) (fun c => ?_) (fun c => ?_)
      · replace h := h_pos (b2i_1 c) h
        refine j_aload_n B dX10_breath_29 rfl 0 rfl ?_
        refine j_iload_n B dX10_breath_30 rfl 1 rfl ?_
        obtain ⟨r4, hr4, h⟩ := h_bind h
        refine j_cVV (rest := []) B (tX10_layNow hW hr4) cls10 (wf_65 hW) jt_RX10_169 wi_X10_layNow ws_X10_layNow rfl (by decide) (Nat.le_refl _) (Nat.le_refl _) rfl (Nat.le_of_ble_eq_true rfl) dX10_breath_31 ?_
        refine j_aload_n B dX10_breath_34 rfl 0 rfl ?_
        refine j_iload_n B dX10_breath_35 rfl 2 rfl ?_
        obtain ⟨r5, hr5, h⟩ := h_bind h
        refine j_cVI (rest := []) B (tX10_goBreath hW hr5) cls10 (wf_65 hW) jt_RX10_305 wi_X10_goBreath ws_X10_goBreath rfl (by decide) (Nat.le_refl _) (Nat.le_refl _) rfl (Nat.le_of_ble_eq_true rfl) dX10_breath_36 ?_
        refine j_pop B dX10_breath_39 rfl ?_
        refine j_iload_n B dX10_breath_40 rfl 3 rfl ?_
        refine j_iconst B dX10_breath_41 (v := 1) (by decide) ?_
        refine j_icmp_ne (tgt := 52) B dX10_breath_42 (by decide) (fun c => ?_) (fun c => ?_)
        · replace h := h_neg c h
          refine j_aload_n B dX10_breath_52 rfl 0 rfl ?_
          refine gf_RX10_173 B rfl (wf_65 hW) dX10_breath_53 ?_
          refine j_if_ne (tgt := 64) B dX10_breath_56 (by decide) (fun c => ?_) (fun c => ?_)
          · replace h := h_neg c h
            refine j_aload_n B dX10_breath_64 rfl 0 rfl ?_
            refine gf_RX10_68 B rfl (wf_65 hW) (wf_180 hW) dX10_breath_65 ?_
            refine j_aload_n B dX10_breath_68 rfl 0 rfl ?_
            refine gf_RX10_173 B rfl (wf_65 hW) dX10_breath_69 ?_
            refine j_iconst B dX10_breath_72 (v := 1) (by decide) ?_
            refine j_isub B dX10_breath_73 ?_
            obtain ⟨b6, h⟩ := h_inb h
            refine j_iald B ((wf_84 hW)) b6 dX10_breath_74 ?_
            obtain ⟨e1, e2⟩ := Prod.mk.inj (Option.some.inj h)
            subst e1
            subst e2
            exact j_iret B E rfl dX10_breath_75 (Nat.le_refl _) (Nat.le_refl _) ⟨rfl, rfl, rfl, rfl⟩
          · replace h := h_pos c h
            refine j_bipush B dX10_breath_59 (v := (-2)) (by decide) ?_
            refine j_goto (tgt := 75) B dX10_breath_61 (by decide) ?_
            obtain ⟨e1, e2⟩ := Prod.mk.inj (Option.some.inj h)
            subst e1
            subst e2
            exact j_iret B E rfl dX10_breath_75 (Nat.le_refl _) (Nat.le_refl _) ⟨rfl, rfl, rfl, rfl⟩
        · replace h := h_pos c h
          refine j_aload_n B dX10_breath_45 rfl 0 rfl ?_
          refine gf_RX10_173 B rfl (wf_65 hW) dX10_breath_46 ?_
          refine j_goto (tgt := 75) B dX10_breath_49 (by decide) ?_
          obtain ⟨e1, e2⟩ := Prod.mk.inj (Option.some.inj h)
          subst e1
          subst e2
          exact j_iret B E rfl dX10_breath_75 (Nat.le_refl _) (Nat.le_refl _) ⟨rfl, rfl, rfl, rfl⟩
      · replace h := h_neg (b2i_0 c) h
        refine j_iconst B dX10_breath_27 (v := (-1)) (by decide) ?_
        obtain ⟨e1, e2⟩ := Prod.mk.inj (Option.some.inj h)
        subst e1
        subst e2
        exact j_iret B E rfl dX10_breath_28 (Nat.le_refl _) (Nat.le_refl _) ⟨rfl, rfl, rfl, rfl⟩
