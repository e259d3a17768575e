def fX9_certain_108 (ns : Nat) (k58 : Int32 → Nat → Int32 → Int32 → VI → VL → Option (Int32 × VI × VL)) (x2 : Int32) (x3 : Nat) (x4 : Int32) (x5 : Int32) (vi : VI) (vl : VL) : Option (Int32 × VI × VL) := k58 x2 x3 x4 (x5 + 1) vi vl
theorem tX9_certain_108 {G : GT} {sv : SV} {ns : Nat} {Γ : CT} {r : Int32} {vi' : VI} {vl' : VL} {k58 : Int32 → Nat → Int32 → Int32 → VI → VL → Option (Int32 × VI × VL)} (B : Base G Γ mX9_certain 6 0 0) (E : Ends G Γ 0 0 (QI r sv vi' vl')) (hW : WF sv ns) (hk58 : ∀ (x2 : Int32) (x3 : Nat) (x4 : Int32) (x5 : Int32) (vi : VI) (vl : VL) (h3 : isSill sv x3), k58 x2 x3 x4 x5 vi vl = some (r, vi', vl') → J G Γ 0 0 58 [(0, .ref (G.1 + 0)), (2, .int x2), (3, .ref (G.1 + x3)), (4, .int x4), (5, .int x5)] [] sv vi vl) : ∀ (x2 : Int32) (x3 : Nat) (x4 : Int32) (x5 : Int32) (vi : VI) (vl : VL) (h3 : isSill sv x3), fX9_certain_108 ns k58 x2 x3 x4 x5 vi vl = some (r, vi', vl') → J G Γ 0 0 108 [(0, .ref (G.1 + 0)), (2, .int x2), (3, .ref (G.1 + x3)), (4, .int x4), (5, .int x5)] [] sv vi vl := by
  intro x2 x3 x4 x5 vi vl h3 h
  unfold fX9_certain_108 at h
  refine j_iinc (v := (x5 + 1)) (L' := [(5, .int (x5 + 1)), (0, .ref (G.1 + 0)), (2, .int x2), (3, .ref (G.1 + x3)), (4, .int x4)]) B dX9_certain_108 4 rfl rfl (by decide) rfl ?_
  refine j_goto (tgt := 58) B dX9_certain_111 (by decide) ?_
  refine j_locals [1, 2, 3, 4, 0] rfl ?_
  exact hk58 (x2) (x3) (x4) ((x5 + 1)) (vi) (vl) (h3) h
def fX9_certain_58 (ns : Nat) : Nat → Int32 → Nat → Int32 → Int32 → VI → VL → Option (Int32 × VI × VL)
  | 0, _, _, _, _, _, _ => none
  | F + 1, x2, x3, x4, x5, vi, vl => if 6 ≤ x5 then some (x4, vi, vl) else if ((x4 >>> (x5 &&& 31)) &&& 1) = 0 then (fX2_workOut x3 x2 x5 vi vl).bind fun r7 => (fX2_fromBare x2 r7.2).bind fun r8 => if (lg_cmp r8 0) = 0 then fX9_certain_108 ns (fX9_certain_58 ns F) x2 x3 (x4 ||| ((1 : Int32) <<< (x5 &&& 31))) x5 r7.1 r7.2 else fX9_certain_108 ns (fX9_certain_58 ns F) x2 x3 x4 x5 r7.1 r7.2 else fX9_certain_108 ns (fX9_certain_58 ns F) x2 x3 x4 x5 vi vl
theorem tX9_certain_58 {G : GT} {sv : SV} {ns : Nat} {Γ : CT} {r : Int32} {vi' : VI} {vl' : VL} (B : Base G Γ mX9_certain 6 0 0) (E : Ends G Γ 0 0 (QI r sv vi' vl')) (hW : WF sv ns) : ∀ (F : Nat) (x2 : Int32) (x3 : Nat) (x4 : Int32) (x5 : Int32) (vi : VI) (vl : VL) (h3 : isSill sv x3), fX9_certain_58 ns F x2 x3 x4 x5 vi vl = some (r, vi', vl') → J G Γ 0 0 58 [(0, .ref (G.1 + 0)), (2, .int x2), (3, .ref (G.1 + x3)), (4, .int x4), (5, .int x5)] [] sv vi vl := by
  intro F
  induction F with
  | zero =>
    intro x2 x3 x4 x5 vi vl h3 h
    cases (show (none : Option (Int32 × VI × VL)) = some (r, vi', vl') from h)
  | succ F ih =>
    intro x2 x3 x4 x5 vi vl h3 h
    rw [fX9_certain_58] at h
    refine j_iload B dX9_certain_58 4 rfl ?_
    refine j_bipush B dX9_certain_60 (v := 6) (by decide) ?_
    refine j_icmp_ge (tgt := 114) B dX9_certain_62 (by decide) (fun c => ?_) (fun c => ?_)
    · replace h := h_pos c h
      refine j_iload B dX9_certain_114 3 rfl ?_
      obtain ⟨e1, e2⟩ := Prod.mk.inj (Option.some.inj h)
      obtain ⟨e2, e3⟩ := Prod.mk.inj e2
      subst e1
      subst e2
      subst e3
      exact j_iret B E rfl dX9_certain_116 (Nat.le_refl _) (Nat.le_refl _) ⟨rfl, rfl, rfl, rfl⟩
    · replace h := h_neg c h
      refine j_iload B dX9_certain_65 3 rfl ?_
      refine j_iload B dX9_certain_67 4 rfl ?_
      refine j_ishr B dX9_certain_69 ?_
      refine j_iconst B dX9_certain_70 (v := 1) (by decide) ?_
      refine j_iand B dX9_certain_71 ?_
      refine j_if_ne (tgt := 108) B dX9_certain_72 (by decide) (fun c => ?_) (fun c => ?_)
      · replace h := h_neg c h
        refine j_locals [0, 1, 2, 3, 4] rfl ?_
        exact tX9_certain_108 B E hW ih (x2) (x3) (x4) (x5) (vi) (vl) (h3) h
      · replace h := h_pos c h
        refine j_aload_n B dX9_certain_75 rfl 0 rfl ?_
        refine gf_RX9_46 B rfl (wf_2 hW) (wf_113 hW) dX9_certain_76 ?_
        refine j_aload_n B dX9_certain_79 rfl 2 rfl ?_
        refine j_iload_n B dX9_certain_80 rfl 1 rfl ?_
        refine j_iload B dX9_certain_81 4 rfl ?_
        obtain ⟨r7, hr7, h⟩ := h_bind h
        refine j_cVV (rest := []) B (tX2_workOut hW (h3) hr7) cls2 (wf_18 hW) jt_RX9_236 wi_X2_workOut ws_X2_workOut rfl (by decide) (Nat.le_refl _) (Nat.le_refl _) rfl (Nat.le_of_ble_eq_true rfl) dX9_certain_83 ?_
        refine j_aload_n B dX9_certain_86 rfl 0 rfl ?_
        refine gf_RX9_46 B rfl (wf_2 hW) (wf_113 hW) dX9_certain_87 ?_
        refine j_iload_n B dX9_certain_90 rfl 1 rfl ?_
        obtain ⟨r8, hr8, h⟩ := h_bind h
        refine j_cVJ (rest := []) B (tX2_fromBare hW hr8) cls2 (wf_18 hW) jt_RX9_240 wi_X2_fromBare ws_X2_fromBare rfl (by decide) (Nat.le_refl _) (Nat.le_refl _) rfl (Nat.le_of_ble_eq_true rfl) dX9_certain_91 ?_
        refine j_lconst B dX9_certain_94 (v := 0) rfl ?_
        refine j_lcmp B dX9_certain_95 ?_
        refine j_if_ne (tgt := 108) B dX9_certain_96 (by decide) (fun c => ?_) (fun c => ?_)
        · replace h := h_neg c h
          refine j_locals [0, 1, 2, 3, 4] rfl ?_
          exact tX9_certain_108 B E hW ih (x2) (x3) (x4) (x5) (r7.1) (r7.2) (h3) h
        · replace h := h_pos c h
          refine j_iload B dX9_certain_99 3 rfl ?_
          refine j_iconst B dX9_certain_101 (v := 1) (by decide) ?_
          refine j_iload B dX9_certain_102 4 rfl ?_
          refine j_ishl B dX9_certain_104 ?_
          refine j_ior B dX9_certain_105 ?_
          refine j_istore (L' := [(4, .int (x4 ||| ((1 : Int32) <<< (x5 &&& 31)))), (0, .ref (G.1 + 0)), (2, .int x2), (3, .ref (G.1 + x3)), (5, .int x5)]) B dX9_certain_106 (by decide) rfl ?_
          refine j_locals [1, 2, 3, 0, 4] rfl ?_
          exact tX9_certain_108 B E hW ih (x2) (x3) ((x4 ||| ((1 : Int32) <<< (x5 &&& 31)))) (x5) (r7.1) (r7.2) (h3) h
def fX9_certain (ns : Nat) (x1 : Int32) (x2 : Int32) (vi0 : VI) (vl0 : VL) : Option (Int32 × VI × VL) := (fX9_sillAt ns x1 vi0).bind fun r1 => optS r1 (some ((-1), vi0, vl0)) fun q2 => (fX9_isWithin x2 9).bind fun r3 => if r3 = true then (fX2_workOut q2 x2 (-1) vi0 vl0).bind fun r4 => (fX2_fromBare x2 r4.2).bind fun r5 => if (lg_cmp r5 0) = 0 then some (0, r4.1, r4.2) else (fX3_readBits (q2 + 1) r4.1).bind fun r6 => fX9_certain_58 ns FU x2 q2 r6 0 r4.1 r4.2 else some ((-1), vi0, vl0)
theorem tX9_certain {G : GT} {sv : SV} {vi0 : VI} {vl0 : VL} {ns : Nat} {x1 : Int32} {x2 : Int32} {r : Int32} {vi' : VI} {vl' : VL} (hW : WF sv ns) (h : fX9_certain ns x1 x2 vi0 vl0 = some (r, vi', vl')) : Call G mX9_certain 6 0 0 [.ref (G.1 + 0), .int x1, .int x2] sv vi0 vl0 (QI r sv vi' vl') := by
  refine j_mk (by decide +kernel) (Nat.le_of_ble_eq_true rfl) (fun Γ B E => ?_)
  show J G Γ 0 0 0 [(0, .ref (G.1 + 0)), (1, .int x1), (2, .int x2)] [] sv vi0 vl0
  unfold fX9_certain at h
  refine j_aload_n B dX9_certain_0 rfl 0 rfl ?_
  refine j_iload_n B dX9_certain_1 rfl 1 rfl ?_
  obtain ⟨r1, hr1, h⟩ := h_bind h
  refine j_cVN (rest := []) B (tX9_sillAt hW hr1) cls9 (wf_2 hW) jt_RX9_137 wi_X9_sillAt ws_X9_sillAt rfl (by decide) (Nat.le_refl _) (Nat.le_refl _) rfl (Nat.le_of_ble_eq_true rfl) dX9_certain_2 ?_
  rcases r1 with _ | q2
  · replace h := h_none h
    refine j_astore_nN (L' := [(3, .null), (0, .ref (G.1 + 0)), (1, .int x1), (2, .int x2)]) B dX9_certain_5 rfl (by decide) rfl ?_
    refine j_aloadN_n B dX9_certain_6 rfl 0 rfl ?_
    refine j_ifnullN (tgt := 19) B dX9_certain_7 (by decide) ?_
    refine j_iconst B dX9_certain_19 (v := (-1)) (by decide) ?_
    obtain ⟨e1, e2⟩ := Prod.mk.inj (Option.some.inj h)
    obtain ⟨e2, e3⟩ := Prod.mk.inj e2
    subst e1
    subst e2
    subst e3
    exact j_iret B E rfl dX9_certain_20 (Nat.le_refl _) (Nat.le_refl _) ⟨rfl, rfl, rfl, rfl⟩
  · replace h := h_some h
    have is_q2 := sillAt_is hW hr1
    refine j_astore_n (L' := [(3, .ref (G.1 + q2)), (0, .ref (G.1 + 0)), (1, .int x1), (2, .int x2)]) B dX9_certain_5 rfl (by decide) rfl ?_
    refine j_aload_n B dX9_certain_6 rfl 0 rfl ?_
    refine j_ifnull B dX9_certain_7 ?_
    refine j_iload_n B dX9_certain_10 rfl 3 rfl ?_
    refine j_bipush B dX9_certain_11 (v := 9) (by decide) ?_
    obtain ⟨r3, hr3, h⟩ := h_bind h
    refine j_cSI (rest := []) B (tX9_isWithin hr3) jt_RX9_90 wst_X9_isWithin rfl (by decide) (Nat.le_refl _) (Nat.le_refl _) rfl (Nat.le_of_ble_eq_true rfl) dX9_certain_13 ?_
    refine j_if_ne (tgt := 21) B dX9_certain_16 (by decide) (fun c => ?_) (fun c => ?_)
    · replace h := h_pos (b2i_1 c) h
      refine j_aload_n B dX9_certain_21 rfl 1 rfl ?_
      refine gf_RX9_46 B rfl (wf_2 hW) (wf_113 hW) dX9_certain_22 ?_
      refine j_aload_n B dX9_certain_25 rfl 0 rfl ?_
      refine j_iload_n B dX9_certain_26 rfl 3 rfl ?_
      refine j_iconst B dX9_certain_27 (v := (-1)) (by decide) ?_
      obtain ⟨r4, hr4, h⟩ := h_bind h
      refine j_cVV (rest := []) B (tX2_workOut hW (is_q2) hr4) cls2 (wf_18 hW) jt_RX9_236 wi_X2_workOut ws_X2_workOut rfl (by decide) (Nat.le_refl _) (Nat.le_refl _) rfl (Nat.le_of_ble_eq_true rfl) dX9_certain_28 ?_
      refine j_aload_n B dX9_certain_31 rfl 1 rfl ?_
      refine gf_RX9_46 B rfl (wf_2 hW) (wf_113 hW) dX9_certain_32 ?_
      refine j_iload_n B dX9_certain_35 rfl 3 rfl ?_
      obtain ⟨r5, hr5, h⟩ := h_bind h
      refine j_cVJ (rest := []) B (tX2_fromBare hW hr5) cls2 (wf_18 hW) jt_RX9_240 wi_X2_fromBare ws_X2_fromBare rfl (by decide) (Nat.le_refl _) (Nat.le_refl _) rfl (Nat.le_of_ble_eq_true rfl) dX9_certain_36 ?_
      refine j_lconst B dX9_certain_39 (v := 0) rfl ?_
      refine j_lcmp B dX9_certain_40 ?_
      refine j_if_ne (tgt := 46) B dX9_certain_41 (by decide) (fun c => ?_) (fun c => ?_)
      · replace h := h_neg c h
        refine j_aload_n B dX9_certain_46 rfl 0 rfl ?_
        refine gf_RX9_141 B rfl ((is_q2).1) (is_q2).2.2.1 dX9_certain_47 ?_
        obtain ⟨r6, hr6, h⟩ := h_bind h
        refine j_cVI (rest := []) B (tX3_readBits ((is_q2).2.2.2.2.2) hr6) cls3 (((is_q2).2.2.2.2.2).1) jt_RX9_192 wi_X3_readBits ws_X3_readBits rfl (by decide) (Nat.le_refl _) (Nat.le_refl _) rfl (Nat.le_of_ble_eq_true rfl) dX9_certain_50 ?_
        refine j_istore (L' := [(4, .int r6), (3, .ref (G.1 + q2)), (0, .ref (G.1 + 0)), (1, .int x1), (2, .int x2)]) B dX9_certain_53 (by decide) rfl ?_
        refine j_iconst B dX9_certain_55 (v := 0) (by decide) ?_
        refine j_istore (L' := [(5, .int 0), (4, .int r6), (3, .ref (G.1 + q2)), (0, .ref (G.1 + 0)), (1, .int x1), (2, .int x2)]) B dX9_certain_56 (by decide) rfl ?_
        refine j_locals [3, 5, 2, 1, 0] rfl ?_
        exact tX9_certain_58 B E hW FU (x2) (q2) (r6) (0) (r4.1) (r4.2) (is_q2) h
      · replace h := h_pos c h
        refine j_iconst B dX9_certain_44 (v := 0) (by decide) ?_
        obtain ⟨e1, e2⟩ := Prod.mk.inj (Option.some.inj h)
        obtain ⟨e2, e3⟩ := Prod.mk.inj e2
        subst e1
        subst e2
        subst e3
        exact j_iret B E rfl dX9_certain_45 (Nat.le_refl _) (Nat.le_refl _) ⟨rfl, rfl, rfl, rfl⟩
    · replace h := h_neg (b2i_0 c) h
      refine j_iconst B dX9_certain_19 (v := (-1)) (by decide) ?_
      obtain ⟨e1, e2⟩ := Prod.mk.inj (Option.some.inj h)
      obtain ⟨e2, e3⟩ := Prod.mk.inj e2
      subst e1
      subst e2
      subst e3
      exact j_iret B E rfl dX9_certain_20 (Nat.le_refl _) (Nat.le_refl _) ⟨rfl, rfl, rfl, rfl⟩
def fX9_longestFrom_23 (vi0 : VI) (x1 : Int32) (x2 : Int32) (s0 : Int32) : Option (Int32) := if s0 = 0 then some (0) else if inb ((x1 * 13) + x2) 169 = true then some ((vi0 22 ((x1 * 13) + x2).toNatClampNeg)) else none
theorem tX9_longestFrom_23 {G : GT} {sv : SV} {vi0 : VI} {vl0 : VL} {ns : Nat} {Γ : CT} {r : Int32} (B : Base G Γ mX9_longestFrom 1 0 0) (E : Ends G Γ 0 0 (QI r sv vi0 vl0)) (hW : WF sv ns) : ∀ (x1 : Int32) (x2 : Int32) (s0 : Int32), fX9_longestFrom_23 vi0 x1 x2 s0 = some (r) → J G Γ 0 0 23 [(0, .ref (G.1 + 0)), (1, .int x1), (2, .int x2)] [.int s0] sv vi0 vl0 := by
  intro x1 x2 s0  h
  unfold fX9_longestFrom_23 at h
  refine j_istore_n (L' := [(3, .int s0), (0, .ref (G.1 + 0)), (1, .int x1), (2, .int x2)]) B dX9_longestFrom_23 rfl (by decide) rfl ?_
  refine j_iload_n B dX9_longestFrom_24 rfl 0 rfl ?_
  refine j_if_eq (tgt := 42) B dX9_longestFrom_25 (by decide) (fun c => ?_) (fun c => ?_)
  · replace h := h_pos c h
    refine j_iconst B dX9_longestFrom_42 (v := 0) (by decide) ?_
    have e1 := Option.some.inj h
    subst e1
    exact j_iret B E rfl dX9_longestFrom_43 (Nat.le_refl _) (Nat.le_refl _) ⟨rfl, rfl, rfl, rfl⟩
  · replace h := h_neg c h
    refine j_aload_n B dX9_longestFrom_28 rfl 1 rfl ?_
    refine gf_RX9_50 B rfl (wf_2 hW) (wf_119 hW) dX9_longestFrom_29 ?_
    refine j_iload_n B dX9_longestFrom_32 rfl 2 rfl ?_
    refine j_bipush B dX9_longestFrom_33 (v := 13) (by decide) ?_
    refine j_imul B dX9_longestFrom_35 ?_
    refine j_iload_n B dX9_longestFrom_36 rfl 3 rfl ?_
    refine j_iadd B dX9_longestFrom_37 ?_
    obtain ⟨b2, h⟩ := h_inb h
    refine j_iald B ((wf_24 hW)) b2 dX9_longestFrom_38 ?_
    refine j_goto (tgt := 43) B dX9_longestFrom_39 (by decide) ?_
    have e1 := Option.some.inj h
    subst e1
    exact j_iret B E rfl dX9_longestFrom_43 (Nat.le_refl _) (Nat.le_refl _) ⟨rfl, rfl, rfl, rfl⟩
def fX9_longestFrom_22 (vi0 : VI) (x1 : Int32) (x2 : Int32) : Option (Int32) := fX9_longestFrom_23 vi0 x1 x2 0
theorem tX9_longestFrom_22 {G : GT} {sv : SV} {vi0 : VI} {vl0 : VL} {ns : Nat} {Γ : CT} {r : Int32} (B : Base G Γ mX9_longestFrom 1 0 0) (E : Ends G Γ 0 0 (QI r sv vi0 vl0)) (hW : WF sv ns) : ∀ (x1 : Int32) (x2 : Int32), fX9_longestFrom_22 vi0 x1 x2 = some (r) → J G Γ 0 0 22 [(0, .ref (G.1 + 0)), (1, .int x1), (2, .int x2)] [] sv vi0 vl0 := by
  intro x1 x2  h
  unfold fX9_longestFrom_22 at h
  refine j_iconst B dX9_longestFrom_22 (v := 0) (by decide) ?_
  refine j_locals [0, 1, 2] rfl ?_
  exact tX9_longestFrom_23 B E hW (x1) (x2) (0)  h
def fX9_longestFrom (x1 : Int32) (x2 : Int32) (vi0 : VI) : Option (Int32) := (fX9_isWithin x1 12).bind fun r1 => if r1 = true then (fX9_isWithin x2 12).bind fun r3 => if r3 = true then fX9_longestFrom_23 vi0 x1 x2 1 else fX9_longestFrom_22 vi0 x1 x2 else fX9_longestFrom_22 vi0 x1 x2
theorem tX9_longestFrom {G : GT} {sv : SV} {vi0 : VI} {vl0 : VL} {ns : Nat} {x1 : Int32} {x2 : Int32} {r : Int32} (hW : WF sv ns) (h : fX9_longestFrom x1 x2 vi0 = some (r)) : Call G mX9_longestFrom 1 0 0 [.ref (G.1 + 0), .int x1, .int x2] sv vi0 vl0 (QI r sv vi0 vl0) := by
  refine j_mk (by decide +kernel) (Nat.le_of_ble_eq_true rfl) (fun Γ B E => ?_)
  show J G Γ 0 0 0 [(0, .ref (G.1 + 0)), (1, .int x1), (2, .int x2)] [] sv vi0 vl0
  unfold fX9_longestFrom at h
  refine j_iload_n B dX9_longestFrom_0 rfl 1 rfl ?_
  refine j_bipush B dX9_longestFrom_1 (v := 12) (by decide) ?_
  obtain ⟨r1, hr1, h⟩ := h_bind h
  refine j_cSI (rest := []) B (tX9_isWithin hr1) jt_RX9_90 wst_X9_isWithin rfl (by decide) (Nat.le_refl _) (Nat.le_refl _) rfl (Nat.le_of_ble_eq_true rfl) dX9_longestFrom_3 ?_
  refine j_if_eq (tgt := 22) B dX9_longestFrom_6 (by decide) (fun c => ?_) (fun c => ?_)
  · replace h := h_neg (b2i_0 c) h
    refine j_locals [0, 1, 2] rfl ?_
    exact tX9_longestFrom_22 B E hW (x1) (x2)  h
  · replace h := h_pos (b2i_1 c) h
    refine j_iload_n B dX9_longestFrom_9 rfl 2 rfl ?_
    refine j_bipush B dX9_longestFrom_10 (v := 12) (by decide) ?_
    obtain ⟨r3, hr3, h⟩ := h_bind h
    refine j_cSI (rest := []) B (tX9_isWithin hr3) jt_RX9_90 wst_X9_isWithin rfl (by decide) (Nat.le_refl _) (Nat.le_refl _) rfl (Nat.le_of_ble_eq_true rfl) dX9_longestFrom_12 ?_
    refine j_if_eq (tgt := 22) B dX9_longestFrom_15 (by decide) (fun c => ?_) (fun c => ?_)
    · replace h := h_neg (b2i_0 c) h
      refine j_locals [0, 1, 2] rfl ?_
      exact tX9_longestFrom_22 B E hW (x1) (x2)  h
    · replace h := h_pos (b2i_1 c) h
      refine j_iconst B dX9_longestFrom_18 (v := 1) (by decide) ?_
      refine j_goto (tgt := 23) B dX9_longestFrom_19 (by decide) ?_
      refine j_locals [0, 1, 2] rfl ?_
      exact tX9_longestFrom_23 B E hW (x1) (x2) (1)  h
def fX9_measureAlike_86 (x1 : Nat) (x2 : Nat) (k15 : Int32 → VI → Option (VI)) (k27 : Int32 → Int32 → VI → Option (VI)) (x3 : Int32) (x4 : Int32) (x5 : Int32) (vi : VI) : Option (VI) := if inb ((x3 * 13) + x4) 169 = true then k27 x3 (x4 + (-1)) (j_up vi 22 ((x3 * 13) + x4).toNatClampNeg x5) else none
theorem tX9_measureAlike_86 {G : GT} {sv : SV} {vl0 : VL} {ns : Nat} {Γ : CT} {x1 : Nat} {x2 : Nat} {vi' : VI} {k15 : Int32 → VI → Option (VI)} {k27 : Int32 → Int32 → VI → Option (VI)} (B : Base G Γ mX9_measureAlike 2 0 0) (E : Ends G Γ 0 0 (QV sv vi' vl0)) (hW : WF sv ns) (h1 : isDust sv x1) (h2 : isDust sv x2) (hk15 : ∀ (x3 : Int32) (vi : VI), k15 x3 vi = some (vi') → J G Γ 0 0 15 [(0, .ref (G.1 + 0)), (1, .ref (G.1 + x1)), (2, .ref (G.1 + x2)), (3, .int x3)] [] sv vi vl0) (hk27 : ∀ (x3 : Int32) (x4 : Int32) (vi : VI), k27 x3 x4 vi = some (vi') → J G Γ 0 0 27 [(0, .ref (G.1 + 0)), (1, .ref (G.1 + x1)), (2, .ref (G.1 + x2)), (3, .int x3), (4, .int x4)] [] sv vi vl0) : ∀ (x3 : Int32) (x4 : Int32) (x5 : Int32) (vi : VI), fX9_measureAlike_86 x1 x2 k15 k27 x3 x4 x5 vi = some (vi') → J G Γ 0 0 86 [(0, .ref (G.1 + 0)), (1, .ref (G.1 + x1)), (2, .ref (G.1 + x2)), (3, .int x3), (4, .int x4), (5, .int x5)] [] sv vi vl0 := by
  intro x3 x4 x5 vi  h
  unfold fX9_measureAlike_86 at h
  refine j_aload_n B dX9_measureAlike_86 rfl 0 rfl ?_
  refine gf_RX9_50 B rfl (wf_2 hW) (wf_119 hW) dX9_measureAlike_87 ?_
  refine j_iload_n B dX9_measureAlike_90 rfl 3 rfl ?_
  refine j_bipush B dX9_measureAlike_91 (v := 13) (by decide) ?_
  refine j_imul B dX9_measureAlike_93 ?_
  refine j_iload B dX9_measureAlike_94 4 rfl ?_
  refine j_iadd B dX9_measureAlike_96 ?_
  refine j_iload B dX9_measureAlike_97 5 rfl ?_
  obtain ⟨b6, h⟩ := h_inb h
  refine j_iast B ((wf_24 hW)) b6 dX9_measureAlike_99 ?_
  refine j_iinc (v := (x4 + (-1))) (L' := [(4, .int (x4 + (-1))), (0, .ref (G.1 + 0)), (1, .ref (G.1 + x1)), (2, .ref (G.1 + x2)), (3, .int x3), (5, .int x5)]) B dX9_measureAlike_100 4 rfl rfl (by decide) rfl ?_
  refine j_goto (tgt := 27) B dX9_measureAlike_103 (by decide) ?_
  refine j_locals [1, 2, 3, 4, 0] rfl ?_
  exact hk27 (x3) ((x4 + (-1))) ((j_up vi 22 ((x3 * 13) + x4).toNatClampNeg x5))  h
def fX9_measureAlike_27 (x1 : Nat) (x2 : Nat) (k15 : Int32 → VI → Option (VI)) : Nat → Int32 → Int32 → VI → Option (VI)
  | 0, _, _, _ => none
  | F + 1, x3, x4, vi => if x4 < 0 then k15 (x3 + (-1)) vi else (fX9_longestFrom (x3 + 1) x4 vi).bind fun r2 => (fX9_longestFrom x3 (x4 + 1) vi).bind fun r3 => if inb x3 12 = true then if inb x4 12 = true then if (vi (x1 + 1) x3.toNatClampNeg) = (vi (x2 + 1) x4.toNatClampNeg) then (fX9_longestFrom (x3 + 1) (x4 + 1) vi).bind fun r7 => fX9_measureAlike_86 x1 x2 k15 (fX9_measureAlike_27 x1 x2 k15 F) x3 x4 (1 + r7) vi else fX9_measureAlike_86 x1 x2 k15 (fX9_measureAlike_27 x1 x2 k15 F) x3 x4 ((if r2 < r3 then r3 else r2) : Int32) vi else none else none
theorem tX9_measureAlike_27 {G : GT} {sv : SV} {vl0 : VL} {ns : Nat} {Γ : CT} {x1 : Nat} {x2 : Nat} {vi' : VI} {k15 : Int32 → VI → Option (VI)} (B : Base G Γ mX9_measureAlike 2 0 0) (E : Ends G Γ 0 0 (QV sv vi' vl0)) (hW : WF sv ns) (h1 : isDust sv x1) (h2 : isDust sv x2) (hk15 : ∀ (x3 : Int32) (vi : VI), k15 x3 vi = some (vi') → J G Γ 0 0 15 [(0, .ref (G.1 + 0)), (1, .ref (G.1 + x1)), (2, .ref (G.1 + x2)), (3, .int x3)] [] sv vi vl0) : ∀ (F : Nat) (x3 : Int32) (x4 : Int32) (vi : VI), fX9_measureAlike_27 x1 x2 k15 F x3 x4 vi = some (vi') → J G Γ 0 0 27 [(0, .ref (G.1 + 0)), (1, .ref (G.1 + x1)), (2, .ref (G.1 + x2)), (3, .int x3), (4, .int x4)] [] sv vi vl0 := by
  intro F
  induction F with
  | zero =>
    intro x3 x4 vi  h
    cases (show (none : Option (VI)) = some (vi') from h)
  | succ F ih =>
    intro x3 x4 vi  h
    rw [fX9_measureAlike_27] at h
    refine j_iload B dX9_measureAlike_27 4 rfl ?_
    refine j_if_lt (tgt := 106) B dX9_measureAlike_29 (by decide) (fun c => ?_) (fun c => ?_)
    · replace h := h_pos c h
      refine j_iinc (v := (x3 + (-1))) (L' := [(3, .int (x3 + (-1))), (0, .ref (G.1 + 0)), (1, .ref (G.1 + x1)), (2, .ref (G.1 + x2)), (4, .int x4)]) B dX9_measureAlike_106 3 rfl rfl (by decide) rfl ?_
      refine j_goto (tgt := 15) B dX9_measureAlike_109 (by decide) ?_
      refine j_locals [1, 2, 3, 0] rfl ?_
      exact hk15 ((x3 + (-1))) (vi)  h
    · replace h := h_neg c h
      refine j_aload_n B dX9_measureAlike_32 rfl 0 rfl ?_
      refine j_iload_n B dX9_measureAlike_33 rfl 3 rfl ?_
      refine j_iconst B dX9_measureAlike_34 (v := 1) (by decide) ?_
      refine j_iadd B dX9_measureAlike_35 ?_
      refine j_iload B dX9_measureAlike_36 4 rfl ?_
      obtain ⟨r2, hr2, h⟩ := h_bind h
      refine j_cVI (rest := []) B (tX9_longestFrom hW hr2) cls9 (wf_2 hW) jt_RX9_255 wi_X9_longestFrom ws_X9_longestFrom rfl (by decide) (Nat.le_refl _) (Nat.le_refl _) rfl (Nat.le_of_ble_eq_true rfl) dX9_measureAlike_38 ?_
      refine j_aload_n B dX9_measureAlike_41 rfl 0 rfl ?_
      refine j_iload_n B dX9_measureAlike_42 rfl 3 rfl ?_
      refine j_iload B dX9_measureAlike_43 4 rfl ?_
      refine j_iconst B dX9_measureAlike_45 (v := 1) (by decide) ?_
      refine j_iadd B dX9_measureAlike_46 ?_
      obtain ⟨r3, hr3, h⟩ := h_bind h
      refine j_cVI (rest := [.int r2]) B (tX9_longestFrom hW hr3) cls9 (wf_2 hW) jt_RX9_255 wi_X9_longestFrom ws_X9_longestFrom rfl (by decide) (Nat.le_refl _) (Nat.le_refl _) rfl (Nat.le_of_ble_eq_true rfl) dX9_measureAlike_47 ?_
      refine j_mmax B (jt_RX9_376).2.2.1 wst_J9_max_7cf53 wini_RJ9 wcm_max (by decide) (Nat.le_refl _) (Nat.le_refl _) (Nat.le_of_ble_eq_true rfl) dX9_measureAlike_50 ?_
      refine j_istore (L' := [(5, .int ((if r2 < r3 then r3 else r2) : Int32)), (0, .ref (G.1 + 0)), (1, .ref (G.1 + x1)), (2, .ref (G.1 + x2)), (3, .int x3), (4, .int x4)]) B dX9_measureAlike_53 (by decide) rfl ?_
      refine j_aload_n B dX9_measureAlike_55 rfl 2 rfl ?_
      refine gf_RX9_262 B rfl ((h1).1) (h1).2.1 dX9_measureAlike_56 ?_
      refine j_iload_n B dX9_measureAlike_59 rfl 4 rfl ?_
      obtain ⟨b4, h⟩ := h_inb h
      refine j_iald B ((h1).2.2.2.1) b4 dX9_measureAlike_60 ?_
      refine j_aload_n B dX9_measureAlike_61 rfl 3 rfl ?_
      refine gf_RX9_262 B rfl ((h2).1) (h2).2.1 dX9_measureAlike_62 ?_
      refine j_iload B dX9_measureAlike_65 5 rfl ?_
      obtain ⟨b5, h⟩ := h_inb h
      refine j_iald B ((h2).2.2.2.1) b5 dX9_measureAlike_67 ?_
      refine j_icmp_ne (tgt := 86) B dX9_measureAlike_68 (by decide) (fun c => ?_) (fun c => ?_)
      · replace h := h_neg c h
        refine j_locals [1, 2, 3, 4, 5, 0] rfl ?_
        exact tX9_measureAlike_86 B E hW h1 h2 hk15 ih (x3) (x4) (((if r2 < r3 then r3 else r2) : Int32)) (vi)  h
      · replace h := h_pos c h
        refine j_iconst B dX9_measureAlike_71 (v := 1) (by decide) ?_
        refine j_aload_n B dX9_measureAlike_72 rfl 1 rfl ?_
        refine j_iload_n B dX9_measureAlike_73 rfl 4 rfl ?_
        refine j_iconst B dX9_measureAlike_74 (v := 1) (by decide) ?_
        refine j_iadd B dX9_measureAlike_75 ?_
        refine j_iload B dX9_measureAlike_76 5 rfl ?_
        refine j_iconst B dX9_measureAlike_78 (v := 1) (by decide) ?_
        refine j_iadd B dX9_measureAlike_79 ?_
        obtain ⟨r7, hr7, h⟩ := h_bind h
        refine j_cVI (rest := [.int 1]) B (tX9_longestFrom hW hr7) cls9 (wf_2 hW) jt_RX9_255 wi_X9_longestFrom ws_X9_longestFrom rfl (by decide) (Nat.le_refl _) (Nat.le_refl _) rfl (Nat.le_of_ble_eq_true rfl) dX9_measureAlike_80 ?_
        refine j_iadd B dX9_measureAlike_83 ?_
        refine j_istore (L' := [(5, .int (1 + r7)), (0, .ref (G.1 + 0)), (1, .ref (G.1 + x1)), (2, .ref (G.1 + x2)), (3, .int x3), (4, .int x4)]) B dX9_measureAlike_84 (by decide) rfl ?_
        refine j_locals [1, 2, 3, 4, 5, 0] rfl ?_
        exact tX9_measureAlike_86 B E hW h1 h2 hk15 ih (x3) (x4) ((1 + r7)) (vi)  h
def fX9_measureAlike_15 (x1 : Nat) (x2 : Nat) : Nat → Int32 → VI → Option (VI)
  | 0, _, _ => none
  | F + 1, x3, vi => if x3 < 0 then some (vi) else fX9_measureAlike_27 x1 x2 (fX9_measureAlike_15 x1 x2 F) FU x3 ((vi x2 2) - 1) vi
theorem tX9_measureAlike_15 {G : GT} {sv : SV} {vl0 : VL} {ns : Nat} {Γ : CT} {x1 : Nat} {x2 : Nat} {vi' : VI} (B : Base G Γ mX9_measureAlike 2 0 0) (E : Ends G Γ 0 0 (QV sv vi' vl0)) (hW : WF sv ns) (h1 : isDust sv x1) (h2 : isDust sv x2) : ∀ (F : Nat) (x3 : Int32) (vi : VI), fX9_measureAlike_15 x1 x2 F x3 vi = some (vi') → J G Γ 0 0 15 [(0, .ref (G.1 + 0)), (1, .ref (G.1 + x1)), (2, .ref (G.1 + x2)), (3, .int x3)] [] sv vi vl0 := by
  intro F
  induction F with
  | zero =>
    intro x3 vi  h
    cases (show (none : Option (VI)) = some (vi') from h)
  | succ F ih =>
    intro x3 vi  h
    rw [fX9_measureAlike_15] at h
    refine j_iload_n B dX9_measureAlike_15 rfl 3 rfl ?_
    refine j_if_lt (tgt := 112) B dX9_measureAlike_16 (by decide) (fun c => ?_) (fun c => ?_)
    · replace h := h_pos c h
      have e1 := Option.some.inj h
      subst e1
      exact j_vret B E rfl dX9_measureAlike_112 (Nat.le_refl _) (Nat.le_refl _) ⟨rfl, rfl, rfl, rfl⟩
    · replace h := h_neg c h
      refine j_aload_n B dX9_measureAlike_19 rfl 2 rfl ?_
      refine gf_RX9_144 B rfl ((h2).1) dX9_measureAlike_20 ?_
      refine j_iconst B dX9_measureAlike_23 (v := 1) (by decide) ?_
      refine j_isub B dX9_measureAlike_24 ?_
      refine j_istore (L' := [(4, .int ((vi x2 2) - 1)), (0, .ref (G.1 + 0)), (1, .ref (G.1 + x1)), (2, .ref (G.1 + x2)), (3, .int x3)]) B dX9_measureAlike_25 (by decide) rfl ?_
      refine j_locals [1, 2, 3, 4, 0] rfl ?_
      exact tX9_measureAlike_27 B E hW h1 h2 ih FU (x3) (((vi x2 2) - 1)) (vi)  h
def fX9_measureAlike (x1 : Nat) (x2 : Nat) (vi0 : VI) : Option (VI) := (fJ7_fill_53178 22 169 0 vi0).bind fun r1 => fX9_measureAlike_15 x1 x2 FU ((r1 x1 2) - 1) r1
theorem tX9_measureAlike {G : GT} {sv : SV} {vi0 : VI} {vl0 : VL} {ns : Nat} {x1 : Nat} {x2 : Nat} {vi' : VI} (hW : WF sv ns) (h1 : isDust sv x1) (h2 : isDust sv x2) (h : fX9_measureAlike x1 x2 vi0 = some (vi')) : Call G mX9_measureAlike 2 0 0 [.ref (G.1 + 0), .ref (G.1 + x1), .ref (G.1 + x2)] sv vi0 vl0 (QV sv vi' vl0) := by
  refine j_mk (by decide +kernel) (Nat.le_of_ble_eq_true rfl) (fun Γ B E => ?_)
  show J G Γ 0 0 0 [(0, .ref (G.1 + 0)), (1, .ref (G.1 + x1)), (2, .ref (G.1 + x2))] [] sv vi0 vl0
  unfold fX9_measureAlike at h
  refine j_aload_n B dX9_measureAlike_0 rfl 0 rfl ?_
  refine gf_RX9_50 B rfl (wf_2 hW) (wf_119 hW) dX9_measureAlike_1 ?_
  refine j_iconst B dX9_measureAlike_4 (v := 0) (by decide) ?_
  obtain ⟨r1, hr1, h⟩ := h_bind h
  refine j_cSV (rest := []) B (tJ7_fill_53178 ((wf_24 hW)) hr1) jt_RX9_83 wst_J7_fill_53178 rfl (by decide) (Nat.le_refl _) (Nat.le_refl _) rfl (Nat.le_of_ble_eq_true rfl) dX9_measureAlike_5 ?_
  refine j_aload_n B dX9_measureAlike_8 rfl 1 rfl ?_
  refine gf_RX9_144 B rfl ((h1).1) dX9_measureAlike_9 ?_
  refine j_iconst B dX9_measureAlike_12 (v := 1) (by decide) ?_
  refine j_isub B dX9_measureAlike_13 ?_
  refine j_istore_n (L' := [(3, .int ((r1 x1 2) - 1)), (0, .ref (G.1 + 0)), (1, .ref (G.1 + x1)), (2, .ref (G.1 + x2))]) B dX9_measureAlike_14 rfl (by decide) rfl ?_
  refine j_locals [1, 2, 3, 0] rfl ?_
  exact tX9_measureAlike_15 B E hW h1 h2 FU (((r1 x1 2) - 1)) (r1)  h
def fX9_nextAlike_66 (x1 : Nat) (x2 : Nat) (vi0 : VI) (k3 : Int32 → Int32 → Int32 → Option (Int32)) (x3 : Int32) (x4 : Int32) (x5 : Int32) : Option (Int32) := k3 x3 x4 (x5 + 1)
theorem tX9_nextAlike_66 {G : GT} {sv : SV} {vi0 : VI} {vl0 : VL} {ns : Nat} {Γ : CT} {x1 : Nat} {x2 : Nat} {r : Int32} {k3 : Int32 → Int32 → Int32 → Option (Int32)} (B : Base G Γ mX9_nextAlike 3 0 0) (E : Ends G Γ 0 0 (QI r sv vi0 vl0)) (hW : WF sv ns) (h1 : isDust sv x1) (h2 : isDust sv x2) (hk3 : ∀ (x3 : Int32) (x4 : Int32) (x5 : Int32), k3 x3 x4 x5 = some (r) → J G Γ 0 0 3 [(0, .ref (G.1 + 0)), (1, .ref (G.1 + x1)), (2, .ref (G.1 + x2)), (3, .int x3), (4, .int x4), (5, .int x5)] [] sv vi0 vl0) : ∀ (x3 : Int32) (x4 : Int32) (x5 : Int32), fX9_nextAlike_66 x1 x2 vi0 k3 x3 x4 x5 = some (r) → J G Γ 0 0 66 [(0, .ref (G.1 + 0)), (1, .ref (G.1 + x1)), (2, .ref (G.1 + x2)), (3, .int x3), (4, .int x4), (5, .int x5)] [] sv vi0 vl0 := by
  intro x3 x4 x5  h
  unfold fX9_nextAlike_66 at h
  refine j_iinc (v := (x5 + 1)) (L' := [(5, .int (x5 + 1)), (0, .ref (G.1 + 0)), (1, .ref (G.1 + x1)), (2, .ref (G.1 + x2)), (3, .int x3), (4, .int x4)]) B dX9_nextAlike_66 5 rfl rfl (by decide) rfl ?_
  refine j_goto (tgt := 3) B dX9_nextAlike_69 (by decide) ?_
  refine j_locals [1, 2, 3, 4, 5, 0] rfl ?_
  exact hk3 (x3) (x4) ((x5 + 1))  h
def fX9_nextAlike_3 (x1 : Nat) (x2 : Nat) (vi0 : VI) : Nat → Int32 → Int32 → Int32 → Option (Int32)
  | 0, _, _, _ => none
  | F + 1, x3, x4, x5 => if 6 ≤ x5 then some ((-2)) else (fX3_nextOf x1 x5 x3 vi0).bind fun r1 => (fX3_nextOf x2 x5 x4 vi0).bind fun r2 => if r1 < 0 then fX9_nextAlike_66 x1 x2 vi0 (fX9_nextAlike_3 x1 x2 vi0 F) x3 x4 x5 else if r2 < 0 then fX9_nextAlike_66 x1 x2 vi0 (fX9_nextAlike_3 x1 x2 vi0 F) x3 x4 x5 else (fX9_longestFrom (r1 + 1) (r2 + 1) vi0).bind fun r3 => (fX9_longestFrom x3 x4 vi0).bind fun r4 => if (1 + r3) = r4 then some (x5) else fX9_nextAlike_66 x1 x2 vi0 (fX9_nextAlike_3 x1 x2 vi0 F) x3 x4 x5
theorem tX9_nextAlike_3 {G : GT} {sv : SV} {vi0 : VI} {vl0 : VL} {ns : Nat} {Γ : CT} {x1 : Nat} {x2 : Nat} {r : Int32} (B : Base G Γ mX9_nextAlike 3 0 0) (E : Ends G Γ 0 0 (QI r sv vi0 vl0)) (hW : WF sv ns) (h1 : isDust sv x1) (h2 : isDust sv x2) : ∀ (F : Nat) (x3 : Int32) (x4 : Int32) (x5 : Int32), fX9_nextAlike_3 x1 x2 vi0 F x3 x4 x5 = some (r) → J G Γ 0 0 3 [(0, .ref (G.1 + 0)), (1, .ref (G.1 + x1)), (2, .ref (G.1 + x2)), (3, .int x3), (4, .int x4), (5, .int x5)] [] sv vi0 vl0 := by
  intro F
  induction F with
  | zero =>
    intro x3 x4 x5  h
    cases (show (none : Option (Int32)) = some (r) from h)
  | succ F ih =>
    intro x3 x4 x5  h
    rw [fX9_nextAlike_3] at h
    refine j_iload B dX9_nextAlike_3 5 rfl ?_
    refine j_bipush B dX9_nextAlike_5 (v := 6) (by decide) ?_
    refine j_icmp_ge (tgt := 72) B dX9_nextAlike_7 (by decide) (fun c => ?_) (fun c => ?_)
    · replace h := h_pos c h
      refine j_bipush B dX9_nextAlike_72 (v := (-2)) (by decide) ?_
      have e1 := Option.some.inj h
      subst e1
      exact j_iret B E rfl dX9_nextAlike_74 (Nat.le_refl _) (Nat.le_refl _) ⟨rfl, rfl, rfl, rfl⟩
    · replace h := h_neg c h
      refine j_aload_n B dX9_nextAlike_10 rfl 1 rfl ?_
      refine j_iload B dX9_nextAlike_11 5 rfl ?_
      refine j_iload_n B dX9_nextAlike_13 rfl 3 rfl ?_
      obtain ⟨r1, hr1, h⟩ := h_bind h
      refine j_cVI (rest := []) B (tX3_nextOf (h1) hr1) cls3 ((h1).1) jt_RX9_213 wi_X3_nextOf ws_X3_nextOf rfl (by decide) (Nat.le_refl _) (Nat.le_refl _) rfl (Nat.le_of_ble_eq_true rfl) dX9_nextAlike_14 ?_
      refine j_istore (L' := [(6, .int r1), (0, .ref (G.1 + 0)), (1, .ref (G.1 + x1)), (2, .ref (G.1 + x2)), (3, .int x3), (4, .int x4), (5, .int x5)]) B dX9_nextAlike_17 (by decide) rfl ?_
      refine j_aload_n B dX9_nextAlike_19 rfl 3 rfl ?_
      refine j_iload B dX9_nextAlike_20 6 rfl ?_
      refine j_iload B dX9_nextAlike_22 5 rfl ?_
      obtain ⟨r2, hr2, h⟩ := h_bind h
      refine j_cVI (rest := []) B (tX3_nextOf (h2) hr2) cls3 ((h2).1) jt_RX9_213 wi_X3_nextOf ws_X3_nextOf rfl (by decide) (Nat.le_refl _) (Nat.le_refl _) rfl (Nat.le_of_ble_eq_true rfl) dX9_nextAlike_24 ?_
      refine j_istore (L' := [(7, .int r2), (6, .int r1), (0, .ref (G.1 + 0)), (1, .ref (G.1 + x1)), (2, .ref (G.1 + x2)), (3, .int x3), (4, .int x4), (5, .int x5)]) B dX9_nextAlike_27 (by decide) rfl ?_
      refine j_iload B dX9_nextAlike_29 1 rfl ?_
      refine j_if_lt (tgt := 66) B dX9_nextAlike_31 (by decide) (fun c => ?_) (fun c => ?_)
      · replace h := h_pos c h
        refine j_locals [2, 3, 4, 5, 6, 7] rfl ?_
        exact tX9_nextAlike_66 B E hW h1 h2 ih (x3) (x4) (x5)  h
      · replace h := h_neg c h
        refine j_iload B dX9_nextAlike_34 0 rfl ?_
        refine j_if_lt (tgt := 66) B dX9_nextAlike_36 (by decide) (fun c => ?_) (fun c => ?_)
        · replace h := h_pos c h
          refine j_locals [2, 3, 4, 5, 6, 7] rfl ?_
          exact tX9_nextAlike_66 B E hW h1 h2 ih (x3) (x4) (x5)  h
        · replace h := h_neg c h
          refine j_iconst B dX9_nextAlike_39 (v := 1) (by decide) ?_
          refine j_aload_n B dX9_nextAlike_40 rfl 2 rfl ?_
          refine j_iload B dX9_nextAlike_41 1 rfl ?_
          refine j_iconst B dX9_nextAlike_43 (v := 1) (by decide) ?_
          refine j_iadd B dX9_nextAlike_44 ?_
          refine j_iload B dX9_nextAlike_45 0 rfl ?_
          refine j_iconst B dX9_nextAlike_47 (v := 1) (by decide) ?_
          refine j_iadd B dX9_nextAlike_48 ?_
          obtain ⟨r3, hr3, h⟩ := h_bind h
          refine j_cVI (rest := [.int 1]) B (tX9_longestFrom hW hr3) cls9 (wf_2 hW) jt_RX9_255 wi_X9_longestFrom ws_X9_longestFrom rfl (by decide) (Nat.le_refl _) (Nat.le_refl _) rfl (Nat.le_of_ble_eq_true rfl) dX9_nextAlike_49 ?_
          refine j_iadd B dX9_nextAlike_52 ?_
          refine j_aload_n B dX9_nextAlike_53 rfl 2 rfl ?_
          refine j_iload_n B dX9_nextAlike_54 rfl 5 rfl ?_
          refine j_iload B dX9_nextAlike_55 6 rfl ?_
          obtain ⟨r4, hr4, h⟩ := h_bind h
          refine j_cVI (rest := [.int (1 + r3)]) B (tX9_longestFrom hW hr4) cls9 (wf_2 hW) jt_RX9_255 wi_X9_longestFrom ws_X9_longestFrom rfl (by decide) (Nat.le_refl _) (Nat.le_refl _) rfl (Nat.le_of_ble_eq_true rfl) dX9_nextAlike_57 ?_
          refine j_icmp_ne (tgt := 66) B dX9_nextAlike_60 (by decide) (fun c => ?_) (fun c => ?_)
          · replace h := h_neg c h
            refine j_locals [2, 3, 4, 5, 6, 7] rfl ?_
            exact tX9_nextAlike_66 B E hW h1 h2 ih (x3) (x4) (x5)  h
          · replace h := h_pos c h
            refine j_iload B dX9_nextAlike_63 7 rfl ?_
            have e1 := Option.some.inj h
            subst e1
            exact j_iret B E rfl dX9_nextAlike_65 (Nat.le_refl _) (Nat.le_refl _) ⟨rfl, rfl, rfl, rfl⟩
def fX9_nextAlike (x1 : Nat) (x2 : Nat) (x3 : Int32) (x4 : Int32) (vi0 : VI) : Option (Int32) := fX9_nextAlike_3 x1 x2 vi0 FU x3 x4 0
theorem tX9_nextAlike {G : GT} {sv : SV} {vi0 : VI} {vl0 : VL} {ns : Nat} {x1 : Nat} {x2 : Nat} {x3 : Int32} {x4 : Int32} {r : Int32} (hW : WF sv ns) (h1 : isDust sv x1) (h2 : isDust sv x2) (h : fX9_nextAlike x1 x2 x3 x4 vi0 = some (r)) : Call G mX9_nextAlike 3 0 0 [.ref (G.1 + 0), .ref (G.1 + x1), .ref (G.1 + x2), .int x3, .int x4] sv vi0 vl0 (QI r sv vi0 vl0) := by
  refine j_mk (by decide +kernel) (Nat.le_of_ble_eq_true rfl) (fun Γ B E => ?_)
  show J G Γ 0 0 0 [(0, .ref (G.1 + 0)), (1, .ref (G.1 + x1)), (2, .ref (G.1 + x2)), (3, .int x3), (4, .int x4)] [] sv vi0 vl0
  unfold fX9_nextAlike at h
  refine j_iconst B dX9_nextAlike_0 (v := 0) (by decide) ?_
  refine j_istore (L' := [(5, .int 0), (0, .ref (G.1 + 0)), (1, .ref (G.1 + x1)), (2, .ref (G.1 + x2)), (3, .int x3), (4, .int x4)]) B dX9_nextAlike_1 (by decide) rfl ?_
  refine j_locals [1, 2, 3, 4, 5, 0] rfl ?_
  exact tX9_nextAlike_3 B E hW h1 h2 FU (x3) (x4) (0)  h
def fX9_kthAlike_13 (x1 : Nat) (x2 : Nat) (vi0 : VI) : Nat → Int32 → Int32 → Int32 → Int32 → Int32 → Option (Int32)
  | 0, _, _, _, _, _ => none
  | F + 1, x3, x4, x5, x6, x7 => if x3 < x7 then some (x6) else if 12 ≤ x7 then some (x6) else (fX9_nextAlike x1 x2 x4 x5 vi0).bind fun r1 => if 0 ≤ r1 then (fX3_nextOf x1 r1 x4 vi0).bind fun r2 => (fX3_nextOf x2 r1 x5 vi0).bind fun r3 => fX9_kthAlike_13 x1 x2 vi0 F x3 (r2 + 1) (r3 + 1) r1 (x7 + 1) else some ((-2))
theorem tX9_kthAlike_13 {G : GT} {sv : SV} {vi0 : VI} {vl0 : VL} {ns : Nat} {Γ : CT} {x1 : Nat} {x2 : Nat} {r : Int32} (B : Base G Γ mX9_kthAlike 4 0 0) (E : Ends G Γ 0 0 (QI r sv vi0 vl0)) (hW : WF sv ns) (h1 : isDust sv x1) (h2 : isDust sv x2) : ∀ (F : Nat) (x3 : Int32) (x4 : Int32) (x5 : Int32) (x6 : Int32) (x7 : Int32), fX9_kthAlike_13 x1 x2 vi0 F x3 x4 x5 x6 x7 = some (r) → J G Γ 0 0 13 [(0, .ref (G.1 + 0)), (1, .ref (G.1 + x1)), (2, .ref (G.1 + x2)), (3, .int x3), (4, .int x4), (5, .int x5), (6, .int x6), (7, .int x7)] [] sv vi0 vl0 := by
  intro F
  induction F with
  | zero =>
    intro x3 x4 x5 x6 x7  h
    cases (show (none : Option (Int32)) = some (r) from h)
  | succ F ih =>
    intro x3 x4 x5 x6 x7  h
    rw [fX9_kthAlike_13] at h
    refine j_iload B dX9_kthAlike_13 7 rfl ?_
    refine j_iload_n B dX9_kthAlike_15 rfl 3 rfl ?_
    refine j_icmp_gt (tgt := 76) B dX9_kthAlike_16 (by decide) (fun c => ?_) (fun c => ?_)
    · replace h := h_pos c h
      refine j_iload B dX9_kthAlike_76 6 rfl ?_
      have e1 := Option.some.inj h
      subst e1
      exact j_iret B E rfl dX9_kthAlike_78 (Nat.le_refl _) (Nat.le_refl _) ⟨rfl, rfl, rfl, rfl⟩
    · replace h := h_neg c h
      refine j_iload B dX9_kthAlike_19 7 rfl ?_
      refine j_bipush B dX9_kthAlike_21 (v := 12) (by decide) ?_
      refine j_icmp_ge (tgt := 76) B dX9_kthAlike_23 (by decide) (fun c => ?_) (fun c => ?_)
      · replace h := h_pos c h
        refine j_iload B dX9_kthAlike_76 6 rfl ?_
        have e1 := Option.some.inj h
        subst e1
        exact j_iret B E rfl dX9_kthAlike_78 (Nat.le_refl _) (Nat.le_refl _) ⟨rfl, rfl, rfl, rfl⟩
      · replace h := h_neg c h
        refine j_aload_n B dX9_kthAlike_26 rfl 0 rfl ?_
        refine j_aload_n B dX9_kthAlike_27 rfl 1 rfl ?_
        refine j_aload_n B dX9_kthAlike_28 rfl 2 rfl ?_
        refine j_iload B dX9_kthAlike_29 4 rfl ?_
        refine j_iload B dX9_kthAlike_31 5 rfl ?_
        obtain ⟨r1, hr1, h⟩ := h_bind h
        refine j_cVI (rest := []) B (tX9_nextAlike hW (h1) (h2) hr1) cls9 (wf_2 hW) jt_RX9_379 wi_X9_nextAlike ws_X9_nextAlike rfl (by decide) (Nat.le_refl _) (Nat.le_refl _) rfl (Nat.le_of_ble_eq_true rfl) dX9_kthAlike_33 ?_
        refine j_istore (L' := [(6, .int r1), (0, .ref (G.1 + 0)), (1, .ref (G.1 + x1)), (2, .ref (G.1 + x2)), (3, .int x3), (4, .int x4), (5, .int x5), (7, .int x7)]) B dX9_kthAlike_36 (by decide) rfl ?_
        refine j_iload B dX9_kthAlike_38 0 rfl ?_
        refine j_if_ge (tgt := 46) B dX9_kthAlike_40 (by decide) (fun c => ?_) (fun c => ?_)
        · replace h := h_pos c h
          refine j_aload_n B dX9_kthAlike_46 rfl 2 rfl ?_
          refine j_iload B dX9_kthAlike_47 0 rfl ?_
          refine j_iload B dX9_kthAlike_49 5 rfl ?_
          obtain ⟨r2, hr2, h⟩ := h_bind h
          refine j_cVI (rest := []) B (tX3_nextOf (h1) hr2) cls3 ((h1).1) jt_RX9_213 wi_X3_nextOf ws_X3_nextOf rfl (by decide) (Nat.le_refl _) (Nat.le_refl _) rfl (Nat.le_of_ble_eq_true rfl) dX9_kthAlike_51 ?_
          refine j_iconst B dX9_kthAlike_54 (v := 1) (by decide) ?_
          refine j_iadd B dX9_kthAlike_55 ?_
          refine j_istore (L' := [(4, .int (r2 + 1)), (6, .int r1), (0, .ref (G.1 + 0)), (1, .ref (G.1 + x1)), (2, .ref (G.1 + x2)), (3, .int x3), (5, .int x5), (7, .int x7)]) B dX9_kthAlike_56 (by decide) rfl ?_
          refine j_aload_n B dX9_kthAlike_58 rfl 4 rfl ?_
          refine j_iload B dX9_kthAlike_59 1 rfl ?_
          refine j_iload B dX9_kthAlike_61 6 rfl ?_
          obtain ⟨r3, hr3, h⟩ := h_bind h
          refine j_cVI (rest := []) B (tX3_nextOf (h2) hr3) cls3 ((h2).1) jt_RX9_213 wi_X3_nextOf ws_X3_nextOf rfl (by decide) (Nat.le_refl _) (Nat.le_refl _) rfl (Nat.le_of_ble_eq_true rfl) dX9_kthAlike_63 ?_
          refine j_iconst B dX9_kthAlike_66 (v := 1) (by decide) ?_
          refine j_iadd B dX9_kthAlike_67 ?_
          refine j_istore (L' := [(5, .int (r3 + 1)), (4, .int (r2 + 1)), (6, .int r1), (0, .ref (G.1 + 0)), (1, .ref (G.1 + x1)), (2, .ref (G.1 + x2)), (3, .int x3), (7, .int x7)]) B dX9_kthAlike_68 (by decide) rfl ?_
          refine j_iinc (v := (x7 + 1)) (L' := [(7, .int (x7 + 1)), (5, .int (r3 + 1)), (4, .int (r2 + 1)), (6, .int r1), (0, .ref (G.1 + 0)), (1, .ref (G.1 + x1)), (2, .ref (G.1 + x2)), (3, .int x3)]) B dX9_kthAlike_70 7 rfl rfl (by decide) rfl ?_
          refine j_goto (tgt := 13) B dX9_kthAlike_73 (by decide) ?_
          refine j_locals [4, 5, 6, 7, 2, 1, 3, 0] rfl ?_
          exact ih (x3) ((r2 + 1)) ((r3 + 1)) (r1) ((x7 + 1))  h
        · replace h := h_neg c h
          refine j_bipush B dX9_kthAlike_43 (v := (-2)) (by decide) ?_
          have e1 := Option.some.inj h
          subst e1
          exact j_iret B E rfl dX9_kthAlike_45 (Nat.le_refl _) (Nat.le_refl _) ⟨rfl, rfl, rfl, rfl⟩
def fX9_kthAlike (x1 : Nat) (x2 : Nat) (x3 : Int32) (vi0 : VI) : Option (Int32) := fX9_kthAlike_13 x1 x2 vi0 FU x3 0 0 (-2) 0
theorem tX9_kthAlike {G : GT} {sv : SV} {vi0 : VI} {vl0 : VL} {ns : Nat} {x1 : Nat} {x2 : Nat} {x3 : Int32} {r : Int32} (hW : WF sv ns) (h1 : isDust sv x1) (h2 : isDust sv x2) (h : fX9_kthAlike x1 x2 x3 vi0 = some (r)) : Call G mX9_kthAlike 4 0 0 [.ref (G.1 + 0), .ref (G.1 + x1), .ref (G.1 + x2), .int x3] sv vi0 vl0 (QI r sv vi0 vl0) := by
  refine j_mk (by decide +kernel) (Nat.le_of_ble_eq_true rfl) (fun Γ B E => ?_)
  show J G Γ 0 0 0 [(0, .ref (G.1 + 0)), (1, .ref (G.1 + x1)), (2, .ref (G.1 + x2)), (3, .int x3)] [] sv vi0 vl0
  unfold fX9_kthAlike at h
  refine j_iconst B dX9_kthAlike_0 (v := 0) (by decide) ?_
  refine j_istore (L' := [(4, .int 0), (0, .ref (G.1 + 0)), (1, .ref (G.1 + x1)), (2, .ref (G.1 + x2)), (3, .int x3)]) B dX9_kthAlike_1 (by decide) rfl ?_
  refine j_iconst B dX9_kthAlike_3 (v := 0) (by decide) ?_
  refine j_istore (L' := [(5, .int 0), (4, .int 0), (0, .ref (G.1 + 0)), (1, .ref (G.1 + x1)), (2, .ref (G.1 + x2)), (3, .int x3)]) B dX9_kthAlike_4 (by decide) rfl ?_
  refine j_bipush B dX9_kthAlike_6 (v := (-2)) (by decide) ?_
  refine j_istore (L' := [(6, .int (-2)), (5, .int 0), (4, .int 0), (0, .ref (G.1 + 0)), (1, .ref (G.1 + x1)), (2, .ref (G.1 + x2)), (3, .int x3)]) B dX9_kthAlike_8 (by decide) rfl ?_
  refine j_iconst B dX9_kthAlike_10 (v := 0) (by decide) ?_
  refine j_istore (L' := [(7, .int 0), (6, .int (-2)), (5, .int 0), (4, .int 0), (0, .ref (G.1 + 0)), (1, .ref (G.1 + x1)), (2, .ref (G.1 + x2)), (3, .int x3)]) B dX9_kthAlike_11 (by decide) rfl ?_
  refine j_locals [4, 5, 6, 7, 3, 2, 1, 0] rfl ?_
  exact tX9_kthAlike_13 B E hW h1 h2 FU (x3) (0) (0) ((-2)) (0)  h
def fX9_alike (ns : Nat) (x1 : Int32) (x2 : Int32) (vi0 : VI) : Option (Int32 × VI) := (fX9_sillAt ns (x1 / 10) vi0).bind fun r1 => optS r1 ((fX9_sillAt ns (x1 - x1 / 10 * 10) vi0).bind fun r3 => optS r3 (some ((-1), vi0)) fun q4 => some ((-1), vi0)) fun q2 => (fX9_sillAt ns (x1 - x1 / 10 * 10) vi0).bind fun r5 => optS r5 (some ((-1), vi0)) fun q6 => if (-1) ≤ x2 then (fX9_measureAlike (q2 + 1) (q6 + 1) vi0).bind fun r7 => (fX9_longestFrom 0 0 r7).bind fun r8 => if 0 ≤ x2 then if r8 ≤ x2 then some ((-2), r7) else (fX9_kthAlike (q2 + 1) (q6 + 1) x2 r7).bind fun r9 => some (r9, r7) else some (r8, r7) else some ((-1), vi0)
theorem tX9_alike {G : GT} {sv : SV} {vi0 : VI} {vl0 : VL} {ns : Nat} {x1 : Int32} {x2 : Int32} {r : Int32} {vi' : VI} (hW : WF sv ns) (h : fX9_alike ns x1 x2 vi0 = some (r, vi')) : Call G mX9_alike 5 0 0 [.ref (G.1 + 0), .int x1, .int x2] sv vi0 vl0 (QI r sv vi' vl0) := by
  refine j_mk (by decide +kernel) (Nat.le_of_ble_eq_true rfl) (fun Γ B E => ?_)
  show J G Γ 0 0 0 [(0, .ref (G.1 + 0)), (1, .int x1), (2, .int x2)] [] sv vi0 vl0
  unfold fX9_alike at h
  refine j_aload_n B dX9_alike_0 rfl 0 rfl ?_
  refine j_iload_n B dX9_alike_1 rfl 1 rfl ?_
  refine j_bipush B dX9_alike_2 (v := 10) (by decide) ?_
  refine j_idiv B dX9_alike_4 (by decide) ?_
  obtain ⟨r1, hr1, h⟩ := h_bind h
  refine j_cVN (rest := []) B (tX9_sillAt hW hr1) cls9 (wf_2 hW) jt_RX9_137 wi_X9_sillAt ws_X9_sillAt rfl (by decide) (Nat.le_refl _) (Nat.le_refl _) rfl (Nat.le_of_ble_eq_true rfl) dX9_alike_5 ?_
  rcases r1 with _ | q2
  · replace h := h_none h
    refine j_astore_nN (L' := [(3, .null), (0, .ref (G.1 + 0)), (1, .int x1), (2, .int x2)]) B dX9_alike_8 rfl (by decide) rfl ?_
    refine j_aload_n B dX9_alike_9 rfl 1 rfl ?_
    refine j_iload_n B dX9_alike_10 rfl 2 rfl ?_
    refine j_bipush B dX9_alike_11 (v := 10) (by decide) ?_
    refine j_irem B dX9_alike_13 (by decide) ?_
    obtain ⟨r3, hr3, h⟩ := h_bind h
    refine j_cVN (rest := []) B (tX9_sillAt hW hr3) cls9 (wf_2 hW) jt_RX9_137 wi_X9_sillAt ws_X9_sillAt rfl (by decide) (Nat.le_refl _) (Nat.le_refl _) rfl (Nat.le_of_ble_eq_true rfl) dX9_alike_14 ?_
    rcases r3 with _ | q4
    · replace h := h_none h
      refine j_astoreN (L' := [(4, .null), (3, .null), (0, .ref (G.1 + 0)), (1, .int x1), (2, .int x2)]) B dX9_alike_17 (by decide) rfl ?_
      refine j_aloadN_n B dX9_alike_19 rfl 1 rfl ?_
      refine j_ifnullN (tgt := 33) B dX9_alike_20 (by decide) ?_
      refine j_iconst B dX9_alike_33 (v := (-1)) (by decide) ?_
      obtain ⟨e1, e2⟩ := Prod.mk.inj (Option.some.inj h)
      subst e1
      subst e2
      exact j_iret B E rfl dX9_alike_34 (Nat.le_refl _) (Nat.le_refl _) ⟨rfl, rfl, rfl, rfl⟩
    · replace h := h_some h
      have is_q4 := sillAt_is hW hr3
      refine j_astore (L' := [(4, .ref (G.1 + q4)), (3, .null), (0, .ref (G.1 + 0)), (1, .int x1), (2, .int x2)]) B dX9_alike_17 (by decide) rfl ?_
      refine j_aloadN_n B dX9_alike_19 rfl 1 rfl ?_
      refine j_ifnullN (tgt := 33) B dX9_alike_20 (by decide) ?_
      refine j_iconst B dX9_alike_33 (v := (-1)) (by decide) ?_
      obtain ⟨e1, e2⟩ := Prod.mk.inj (Option.some.inj h)
      subst e1
      subst e2
      exact j_iret B E rfl dX9_alike_34 (Nat.le_refl _) (Nat.le_refl _) ⟨rfl, rfl, rfl, rfl⟩
  · replace h := h_some h
    have is_q2 := sillAt_is hW hr1
    refine j_astore_n (L' := [(3, .ref (G.1 + q2)), (0, .ref (G.1 + 0)), (1, .int x1), (2, .int x2)]) B dX9_alike_8 rfl (by decide) rfl ?_
    refine j_aload_n B dX9_alike_9 rfl 1 rfl ?_
    refine j_iload_n B dX9_alike_10 rfl 2 rfl ?_
    refine j_bipush B dX9_alike_11 (v := 10) (by decide) ?_
    refine j_irem B dX9_alike_13 (by decide) ?_
    obtain ⟨r5, hr5, h⟩ := h_bind h
    refine j_cVN (rest := []) B (tX9_sillAt hW hr5) cls9 (wf_2 hW) jt_RX9_137 wi_X9_sillAt ws_X9_sillAt rfl (by decide) (Nat.le_refl _) (Nat.le_refl _) rfl (Nat.le_of_ble_eq_true rfl) dX9_alike_14 ?_
    rcases r5 with _ | q6
    · replace h := h_none h
      refine j_astoreN (L' := [(4, .null), (3, .ref (G.1 + q2)), (0, .ref (G.1 + 0)), (1, .int x1), (2, .int x2)]) B dX9_alike_17 (by decide) rfl ?_
      refine j_aload_n B dX9_alike_19 rfl 1 rfl ?_
      refine j_ifnull B dX9_alike_20 ?_
      refine j_aloadN B dX9_alike_23 0 rfl ?_
      refine j_ifnullN (tgt := 33) B dX9_alike_25 (by decide) ?_
      refine j_iconst B dX9_alike_33 (v := (-1)) (by decide) ?_
      obtain ⟨e1, e2⟩ := Prod.mk.inj (Option.some.inj h)
      subst e1
      subst e2
      exact j_iret B E rfl dX9_alike_34 (Nat.le_refl _) (Nat.le_refl _) ⟨rfl, rfl, rfl, rfl⟩
    · replace h := h_some h
      have is_q6 := sillAt_is hW hr5
      refine j_astore (L' := [(4, .ref (G.1 + q6)), (3, .ref (G.1 + q2)), (0, .ref (G.1 + 0)), (1, .int x1), (2, .int x2)]) B dX9_alike_17 (by decide) rfl ?_
      refine j_aload_n B dX9_alike_19 rfl 1 rfl ?_
      refine j_ifnull B dX9_alike_20 ?_
      refine j_aload B dX9_alike_23 0 rfl ?_
      refine j_ifnull B dX9_alike_25 ?_
      refine j_iload_n B dX9_alike_28 rfl 4 rfl ?_
      refine j_iconst B dX9_alike_29 (v := (-1)) (by decide) ?_
      refine j_icmp_ge (tgt := 35) B dX9_alike_30 (by decide) (fun c => ?_) (fun c => ?_)
      · replace h := h_pos c h
        refine j_aload_n B dX9_alike_35 rfl 2 rfl ?_
        refine j_aload_n B dX9_alike_36 rfl 1 rfl ?_
        refine gf_RX9_141 B rfl ((is_q2).1) (is_q2).2.2.1 dX9_alike_37 ?_
        refine j_aload B dX9_alike_40 0 rfl ?_
        refine gf_RX9_141 B rfl ((is_q6).1) (is_q6).2.2.1 dX9_alike_42 ?_
        obtain ⟨r7, hr7, h⟩ := h_bind h
        refine j_cVV (rest := []) B (tX9_measureAlike hW ((is_q2).2.2.2.2.2) ((is_q6).2.2.2.2.2) hr7) cls9 (wf_2 hW) jt_RX9_251 wi_X9_measureAlike ws_X9_measureAlike rfl (by decide) (Nat.le_refl _) (Nat.le_refl _) rfl (Nat.le_of_ble_eq_true rfl) dX9_alike_45 ?_
        refine j_aload_n B dX9_alike_48 rfl 2 rfl ?_
        refine j_iconst B dX9_alike_49 (v := 0) (by decide) ?_
        refine j_iconst B dX9_alike_50 (v := 0) (by decide) ?_
        obtain ⟨r8, hr8, h⟩ := h_bind h
        refine j_cVI (rest := []) B (tX9_longestFrom hW hr8) cls9 (wf_2 hW) jt_RX9_255 wi_X9_longestFrom ws_X9_longestFrom rfl (by decide) (Nat.le_refl _) (Nat.le_refl _) rfl (Nat.le_of_ble_eq_true rfl) dX9_alike_51 ?_
        refine j_istore (L' := [(5, .int r8), (4, .ref (G.1 + q6)), (3, .ref (G.1 + q2)), (0, .ref (G.1 + 0)), (1, .int x1), (2, .int x2)]) B dX9_alike_54 (by decide) rfl ?_
        refine j_iload_n B dX9_alike_56 rfl 5 rfl ?_
        refine j_if_ge (tgt := 63) B dX9_alike_57 (by decide) (fun c => ?_) (fun c => ?_)
        · replace h := h_pos c h
          refine j_iload_n B dX9_alike_63 rfl 5 rfl ?_
          refine j_iload B dX9_alike_64 0 rfl ?_
          refine j_icmp_ge (tgt := 86) B dX9_alike_66 (by decide) (fun c => ?_) (fun c => ?_)
          · replace h := h_pos c h
            refine j_bipush B dX9_alike_86 (v := (-2)) (by decide) ?_
            obtain ⟨e1, e2⟩ := Prod.mk.inj (Option.some.inj h)
            subst e1
            subst e2
            exact j_iret B E rfl dX9_alike_88 (Nat.le_refl _) (Nat.le_refl _) ⟨rfl, rfl, rfl, rfl⟩
          · replace h := h_neg c h
            refine j_aload_n B dX9_alike_69 rfl 3 rfl ?_
            refine j_aload_n B dX9_alike_70 rfl 2 rfl ?_
            refine gf_RX9_141 B rfl ((is_q2).1) (is_q2).2.2.1 dX9_alike_71 ?_
            refine j_aload B dX9_alike_74 1 rfl ?_
            refine gf_RX9_141 B rfl ((is_q6).1) (is_q6).2.2.1 dX9_alike_76 ?_
            refine j_iload_n B dX9_alike_79 rfl 5 rfl ?_
            obtain ⟨r9, hr9, h⟩ := h_bind h
            refine j_cVI (rest := []) B (tX9_kthAlike hW ((is_q2).2.2.2.2.2) ((is_q6).2.2.2.2.2) hr9) cls9 (wf_2 hW) jt_RX9_258 wi_X9_kthAlike ws_X9_kthAlike rfl (by decide) (Nat.le_refl _) (Nat.le_refl _) rfl (Nat.le_of_ble_eq_true rfl) dX9_alike_80 ?_
            refine j_goto (tgt := 88) B dX9_alike_83 (by decide) ?_
            obtain ⟨e1, e2⟩ := Prod.mk.inj (Option.some.inj h)
            subst e1
            subst e2
            exact j_iret B E rfl dX9_alike_88 (Nat.le_refl _) (Nat.le_refl _) ⟨rfl, rfl, rfl, rfl⟩
        · replace h := h_neg c h
          refine j_iload B dX9_alike_60 0 rfl ?_
          obtain ⟨e1, e2⟩ := Prod.mk.inj (Option.some.inj h)
          subst e1
          subst e2
          exact j_iret B E rfl dX9_alike_62 (Nat.le_refl _) (Nat.le_refl _) ⟨rfl, rfl, rfl, rfl⟩
      · replace h := h_neg c h
        refine j_iconst B dX9_alike_33 (v := (-1)) (by decide) ?_
        obtain ⟨e1, e2⟩ := Prod.mk.inj (Option.some.inj h)
        subst e1
        subst e2
        exact j_iret B E rfl dX9_alike_34 (Nat.le_refl _) (Nat.le_refl _) ⟨rfl, rfl, rfl, rfl⟩
def fX9_same_50 (ns : Nat) (vi0 : VI) : Nat → Nat → Nat → Int32 → Option (Int32)
  | 0, _, _, _ => none
  | F + 1, x2, x3, x4 => if (vi0 (x2 + 1) 2) ≤ x4 then some (1) else if inb x4 12 = true then if inb x4 12 = true then if (vi0 ((x2 + 1) + 1) x4.toNatClampNeg) = (vi0 ((x3 + 1) + 1) x4.toNatClampNeg) then fX9_same_50 ns vi0 F x2 x3 (x4 + 1) else some (0) else none else none
theorem tX9_same_50 {G : GT} {sv : SV} {vi0 : VI} {vl0 : VL} {ns : Nat} {Γ : CT} {r : Int32} (B : Base G Γ mX9_same 1 0 0) (E : Ends G Γ 0 0 (QI r sv vi0 vl0)) (hW : WF sv ns) : ∀ (F : Nat) (x2 : Nat) (x3 : Nat) (x4 : Int32) (h2 : isSill sv x2) (h3 : isSill sv x3), fX9_same_50 ns vi0 F x2 x3 x4 = some (r) → J G Γ 0 0 50 [(2, .ref (G.1 + x2)), (3, .ref (G.1 + x3)), (4, .int x4)] [] sv vi0 vl0 := by
  intro F
  induction F with
  | zero =>
    intro x2 x3 x4 h2 h3 h
    cases (show (none : Option (Int32)) = some (r) from h)
  | succ F ih =>
    intro x2 x3 x4 h2 h3 h
    rw [fX9_same_50] at h
    refine j_iload B dX9_same_50 2 rfl ?_
    refine j_aload_n B dX9_same_52 rfl 0 rfl ?_
    refine gf_RX9_141 B rfl ((h2).1) (h2).2.2.1 dX9_same_53 ?_
    refine gf_RX9_144 B rfl (((h2).2.2.2.2.2).1) dX9_same_56 ?_
    refine j_icmp_ge (tgt := 93) B dX9_same_59 (by decide) (fun c => ?_) (fun c => ?_)
    · replace h := h_pos c h
      refine j_iconst B dX9_same_93 (v := 1) (by decide) ?_
      have e1 := Option.some.inj h
      subst e1
      exact j_iret B E rfl dX9_same_94 (Nat.le_refl _) (Nat.le_refl _) ⟨rfl, rfl, rfl, rfl⟩
    · replace h := h_neg c h
      refine j_aload_n B dX9_same_62 rfl 0 rfl ?_
      refine gf_RX9_141 B rfl ((h2).1) (h2).2.2.1 dX9_same_63 ?_
      refine gf_RX9_262 B rfl (((h2).2.2.2.2.2).1) ((h2).2.2.2.2.2).2.1 dX9_same_66 ?_
      refine j_iload B dX9_same_69 2 rfl ?_
      obtain ⟨b7, h⟩ := h_inb h
      refine j_iald B (((h2).2.2.2.2.2).2.2.2.1) b7 dX9_same_71 ?_
      refine j_aload_n B dX9_same_72 rfl 1 rfl ?_
      refine gf_RX9_141 B rfl ((h3).1) (h3).2.2.1 dX9_same_73 ?_
      refine gf_RX9_262 B rfl (((h3).2.2.2.2.2).1) ((h3).2.2.2.2.2).2.1 dX9_same_76 ?_
      refine j_iload B dX9_same_79 2 rfl ?_
      obtain ⟨b8, h⟩ := h_inb h
      refine j_iald B (((h3).2.2.2.2.2).2.2.2.1) b8 dX9_same_81 ?_
      refine j_icmp_eq (tgt := 87) B dX9_same_82 (by decide) (fun c => ?_) (fun c => ?_)
      · replace h := h_pos c h
        refine j_iinc (v := (x4 + 1)) (L' := [(4, .int (x4 + 1)), (2, .ref (G.1 + x2)), (3, .ref (G.1 + x3))]) B dX9_same_87 2 rfl rfl (by decide) rfl ?_
        refine j_goto (tgt := 50) B dX9_same_90 (by decide) ?_
        refine j_locals [1, 2, 0] rfl ?_
        exact ih (x2) (x3) ((x4 + 1)) (h2) (h3) h
      · replace h := h_neg c h
        refine j_iconst B dX9_same_85 (v := 0) (by decide) ?_
        have e1 := Option.some.inj h
        subst e1
        exact j_iret B E rfl dX9_same_86 (Nat.le_refl _) (Nat.le_refl _) ⟨rfl, rfl, rfl, rfl⟩
def fX9_same (ns : Nat) (x1 : Int32) (vi0 : VI) : Option (Int32) := (fX9_sillAt ns (x1 / 10) vi0).bind fun r1 => optS r1 ((fX9_sillAt ns (x1 - x1 / 10 * 10) vi0).bind fun r3 => optS r3 (some ((-1))) fun q4 => some ((-1))) fun q2 => (fX9_sillAt ns (x1 - x1 / 10 * 10) vi0).bind fun r5 => optS r5 (some ((-1))) fun q6 => if (vi0 (q2 + 1) 2) = (vi0 (q6 + 1) 2) then fX9_same_50 ns vi0 FU q2 q6 0 else some (0)
theorem tX9_same {G : GT} {sv : SV} {vi0 : VI} {vl0 : VL} {ns : Nat} {x1 : Int32} {r : Int32} (hW : WF sv ns) (h : fX9_same ns x1 vi0 = some (r)) : Call G mX9_same 1 0 0 [.ref (G.1 + 0), .int x1] sv vi0 vl0 (QI r sv vi0 vl0) := by
  refine j_mk (by decide +kernel) (Nat.le_of_ble_eq_true rfl) (fun Γ B E => ?_)
  show J G Γ 0 0 0 [(0, .ref (G.1 + 0)), (1, .int x1)] [] sv vi0 vl0
  unfold fX9_same at h
  refine j_aload_n B dX9_same_0 rfl 0 rfl ?_
  refine j_iload_n B dX9_same_1 rfl 1 rfl ?_
  refine j_bipush B dX9_same_2 (v := 10) (by decide) ?_
  refine j_idiv B dX9_same_4 (by decide) ?_
  obtain ⟨r1, hr1, h⟩ := h_bind h
  refine j_cVN (rest := []) B (tX9_sillAt hW hr1) cls9 (wf_2 hW) jt_RX9_137 wi_X9_sillAt ws_X9_sillAt rfl (by decide) (Nat.le_refl _) (Nat.le_refl _) rfl (Nat.le_of_ble_eq_true rfl) dX9_same_5 ?_
  rcases r1 with _ | q2
  · replace h := h_none h
    refine j_astore_nN (L' := [(2, .null), (0, .ref (G.1 + 0)), (1, .int x1)]) B dX9_same_8 rfl (by decide) rfl ?_
    refine j_aload_n B dX9_same_9 rfl 1 rfl ?_
    refine j_iload_n B dX9_same_10 rfl 2 rfl ?_
    refine j_bipush B dX9_same_11 (v := 10) (by decide) ?_
    refine j_irem B dX9_same_13 (by decide) ?_
    obtain ⟨r3, hr3, h⟩ := h_bind h
    refine j_cVN (rest := []) B (tX9_sillAt hW hr3) cls9 (wf_2 hW) jt_RX9_137 wi_X9_sillAt ws_X9_sillAt rfl (by decide) (Nat.le_refl _) (Nat.le_refl _) rfl (Nat.le_of_ble_eq_true rfl) dX9_same_14 ?_
    rcases r3 with _ | q4
    · replace h := h_none h
      refine j_astore_nN (L' := [(3, .null), (2, .null), (0, .ref (G.1 + 0)), (1, .int x1)]) B dX9_same_17 rfl (by decide) rfl ?_
      refine j_aloadN_n B dX9_same_18 rfl 1 rfl ?_
      refine j_ifnullN (tgt := 26) B dX9_same_19 (by decide) ?_
      refine j_iconst B dX9_same_26 (v := (-1)) (by decide) ?_
      have e1 := Option.some.inj h
      subst e1
      exact j_iret B E rfl dX9_same_27 (Nat.le_refl _) (Nat.le_refl _) ⟨rfl, rfl, rfl, rfl⟩
    · replace h := h_some h
      have is_q4 := sillAt_is hW hr3
      refine j_astore_n (L' := [(3, .ref (G.1 + q4)), (2, .null), (0, .ref (G.1 + 0)), (1, .int x1)]) B dX9_same_17 rfl (by decide) rfl ?_
      refine j_aloadN_n B dX9_same_18 rfl 1 rfl ?_
      refine j_ifnullN (tgt := 26) B dX9_same_19 (by decide) ?_
      refine j_iconst B dX9_same_26 (v := (-1)) (by decide) ?_
      have e1 := Option.some.inj h
      subst e1
      exact j_iret B E rfl dX9_same_27 (Nat.le_refl _) (Nat.le_refl _) ⟨rfl, rfl, rfl, rfl⟩
  · replace h := h_some h
    have is_q2 := sillAt_is hW hr1
    refine j_astore_n (L' := [(2, .ref (G.1 + q2)), (0, .ref (G.1 + 0)), (1, .int x1)]) B dX9_same_8 rfl (by decide) rfl ?_
    refine j_aload_n B dX9_same_9 rfl 1 rfl ?_
    refine j_iload_n B dX9_same_10 rfl 2 rfl ?_
    refine j_bipush B dX9_same_11 (v := 10) (by decide) ?_
    refine j_irem B dX9_same_13 (by decide) ?_
    obtain ⟨r5, hr5, h⟩ := h_bind h
    refine j_cVN (rest := []) B (tX9_sillAt hW hr5) cls9 (wf_2 hW) jt_RX9_137 wi_X9_sillAt ws_X9_sillAt rfl (by decide) (Nat.le_refl _) (Nat.le_refl _) rfl (Nat.le_of_ble_eq_true rfl) dX9_same_14 ?_
    rcases r5 with _ | q6
    · replace h := h_none h
      refine j_astore_nN (L' := [(3, .null), (2, .ref (G.1 + q2)), (0, .ref (G.1 + 0)), (1, .int x1)]) B dX9_same_17 rfl (by decide) rfl ?_
      refine j_aload_n B dX9_same_18 rfl 1 rfl ?_
      refine j_ifnull B dX9_same_19 ?_
      refine j_aloadN_n B dX9_same_22 rfl 0 rfl ?_
      refine j_ifnonnullN B dX9_same_23 ?_
      refine j_iconst B dX9_same_26 (v := (-1)) (by decide) ?_
      have e1 := Option.some.inj h
      subst e1
      exact j_iret B E rfl dX9_same_27 (Nat.le_refl _) (Nat.le_refl _) ⟨rfl, rfl, rfl, rfl⟩
    · replace h := h_some h
      have is_q6 := sillAt_is hW hr5
      refine j_astore_n (L' := [(3, .ref (G.1 + q6)), (2, .ref (G.1 + q2)), (0, .ref (G.1 + 0)), (1, .int x1)]) B dX9_same_17 rfl (by decide) rfl ?_
      refine j_aload_n B dX9_same_18 rfl 1 rfl ?_
      refine j_ifnull B dX9_same_19 ?_
      refine j_aload_n B dX9_same_22 rfl 0 rfl ?_
      refine j_ifnonnull (tgt := 28) B dX9_same_23 (by decide) ?_
      refine j_aload_n B dX9_same_28 rfl 1 rfl ?_
      refine gf_RX9_141 B rfl ((is_q2).1) (is_q2).2.2.1 dX9_same_29 ?_
      refine gf_RX9_144 B rfl (((is_q2).2.2.2.2.2).1) dX9_same_32 ?_
      refine j_aload_n B dX9_same_35 rfl 0 rfl ?_
      refine gf_RX9_141 B rfl ((is_q6).1) (is_q6).2.2.1 dX9_same_36 ?_
      refine gf_RX9_144 B rfl (((is_q6).2.2.2.2.2).1) dX9_same_39 ?_
      refine j_icmp_eq (tgt := 47) B dX9_same_42 (by decide) (fun c => ?_) (fun c => ?_)
      · replace h := h_pos c h
        refine j_iconst B dX9_same_47 (v := 0) (by decide) ?_
        refine j_istore (L' := [(4, .int 0), (3, .ref (G.1 + q6)), (2, .ref (G.1 + q2)), (0, .ref (G.1 + 0)), (1, .int x1)]) B dX9_same_48 (by decide) rfl ?_
        refine j_locals [2, 1, 0] rfl ?_
        exact tX9_same_50 B E hW FU (q2) (q6) (0) (is_q2) (is_q6) h
      · replace h := h_neg c h
        refine j_iconst B dX9_same_45 (v := 0) (by decide) ?_
        have e1 := Option.some.inj h
        subst e1
        exact j_iret B E rfl dX9_same_46 (Nat.le_refl _) (Nat.le_refl _) ⟨rfl, rfl, rfl, rfl⟩
def fX9_weightOf_73 (ns : Nat) (vi0 : VI) (k4 : Int32 → Int32 → Int32 → Option (Int32)) (k26 : Int32 → Int32 → Int32 → Nat → Int32 → Option (Int32)) (x1 : Int32) (x2 : Int32) (x3 : Int32) (x4 : Nat) (x5 : Int32) : Option (Int32) := k26 x1 x2 x3 x4 (x5 + 1)
theorem tX9_weightOf_73 {G : GT} {sv : SV} {vi0 : VI} {vl0 : VL} {ns : Nat} {Γ : CT} {r : Int32} {k4 : Int32 → Int32 → Int32 → Option (Int32)} {k26 : Int32 → Int32 → Int32 → Nat → Int32 → Option (Int32)} (B : Base G Γ mX9_weightOf 0 0 0) (E : Ends G Γ 0 0 (QI r sv vi0 vl0)) (hW : WF sv ns) (hk4 : ∀ (x1 : Int32) (x2 : Int32) (x3 : Int32), k4 x1 x2 x3 = some (r) → J G Γ 0 0 4 [(0, .ref (G.1 + 0)), (1, .int x1), (2, .int x2), (3, .int x3)] [] sv vi0 vl0) (hk26 : ∀ (x1 : Int32) (x2 : Int32) (x3 : Int32) (x4 : Nat) (x5 : Int32) (h4 : isDust sv x4), k26 x1 x2 x3 x4 x5 = some (r) → J G Γ 0 0 26 [(0, .ref (G.1 + 0)), (1, .int x1), (2, .int x2), (3, .int x3), (4, .ref (G.1 + x4)), (5, .int x5)] [] sv vi0 vl0) : ∀ (x1 : Int32) (x2 : Int32) (x3 : Int32) (x4 : Nat) (x5 : Int32) (h4 : isDust sv x4), fX9_weightOf_73 ns vi0 k4 k26 x1 x2 x3 x4 x5 = some (r) → J G Γ 0 0 73 [(0, .ref (G.1 + 0)), (1, .int x1), (2, .int x2), (3, .int x3), (4, .ref (G.1 + x4)), (5, .int x5)] [] sv vi0 vl0 := by
  intro x1 x2 x3 x4 x5 h4 h
  unfold fX9_weightOf_73 at h
  refine j_iinc (v := (x5 + 1)) (L' := [(5, .int (x5 + 1)), (0, .ref (G.1 + 0)), (1, .int x1), (2, .int x2), (3, .int x3), (4, .ref (G.1 + x4))]) B dX9_weightOf_73 5 rfl rfl (by decide) rfl ?_
  refine j_goto (tgt := 26) B dX9_weightOf_76 (by decide) ?_
  refine j_locals [1, 2, 3, 4, 5, 0] rfl ?_
  exact hk26 (x1) (x2) (x3) (x4) ((x5 + 1)) (h4) h
def fX9_weightOf_26 (ns : Nat) (vi0 : VI) (k4 : Int32 → Int32 → Int32 → Option (Int32)) : Nat → Int32 → Int32 → Int32 → Nat → Int32 → Option (Int32)
  | 0, _, _, _, _, _ => none
  | F + 1, x1, x2, x3, x4, x5 => if (vi0 x4 2) ≤ x5 then k4 x1 x2 (x3 + 1) else if inb x5 12 = true then if (vi0 (x4 + 1) x5.toNatClampNeg) = x1 then if inb x5 12 = true then fX9_weightOf_73 ns vi0 k4 (fX9_weightOf_26 ns vi0 k4 F) x1 (x2 + ((vi0 (x4 + 2) x5.toNatClampNeg) * (13 - (((vi0 x4 2) - 1) - x5)))) x3 x4 x5 else none else fX9_weightOf_73 ns vi0 k4 (fX9_weightOf_26 ns vi0 k4 F) x1 x2 x3 x4 x5 else none
theorem tX9_weightOf_26 {G : GT} {sv : SV} {vi0 : VI} {vl0 : VL} {ns : Nat} {Γ : CT} {r : Int32} {k4 : Int32 → Int32 → Int32 → Option (Int32)} (B : Base G Γ mX9_weightOf 0 0 0) (E : Ends G Γ 0 0 (QI r sv vi0 vl0)) (hW : WF sv ns) (hk4 : ∀ (x1 : Int32) (x2 : Int32) (x3 : Int32), k4 x1 x2 x3 = some (r) → J G Γ 0 0 4 [(0, .ref (G.1 + 0)), (1, .int x1), (2, .int x2), (3, .int x3)] [] sv vi0 vl0) : ∀ (F : Nat) (x1 : Int32) (x2 : Int32) (x3 : Int32) (x4 : Nat) (x5 : Int32) (h4 : isDust sv x4), fX9_weightOf_26 ns vi0 k4 F x1 x2 x3 x4 x5 = some (r) → J G Γ 0 0 26 [(0, .ref (G.1 + 0)), (1, .int x1), (2, .int x2), (3, .int x3), (4, .ref (G.1 + x4)), (5, .int x5)] [] sv vi0 vl0 := by
  intro F
  induction F with
  | zero =>
    intro x1 x2 x3 x4 x5 h4 h
    cases (show (none : Option (Int32)) = some (r) from h)
  | succ F ih =>
    intro x1 x2 x3 x4 x5 h4 h
    rw [fX9_weightOf_26] at h
    refine j_iload B dX9_weightOf_26 5 rfl ?_
    refine j_aload B dX9_weightOf_28 4 rfl ?_
    refine gf_RX9_144 B rfl ((h4).1) dX9_weightOf_30 ?_
    refine j_icmp_ge (tgt := 79) B dX9_weightOf_33 (by decide) (fun c => ?_) (fun c => ?_)
    · replace h := h_pos c h
      refine j_iinc (v := (x3 + 1)) (L' := [(3, .int (x3 + 1)), (0, .ref (G.1 + 0)), (1, .int x1), (2, .int x2), (4, .ref (G.1 + x4)), (5, .int x5)]) B dX9_weightOf_79 3 rfl rfl (by decide) rfl ?_
      refine j_goto (tgt := 4) B dX9_weightOf_82 (by decide) ?_
      refine j_locals [1, 2, 3, 0] rfl ?_
      exact hk4 (x1) (x2) ((x3 + 1))  h
    · replace h := h_neg c h
      refine j_aload B dX9_weightOf_36 4 rfl ?_
      refine gf_RX9_262 B rfl ((h4).1) (h4).2.1 dX9_weightOf_38 ?_
      refine j_iload B dX9_weightOf_41 5 rfl ?_
      obtain ⟨b2, h⟩ := h_inb h
      refine j_iald B ((h4).2.2.2.1) b2 dX9_weightOf_43 ?_
      refine j_iload_n B dX9_weightOf_44 rfl 1 rfl ?_
      refine j_icmp_ne (tgt := 73) B dX9_weightOf_45 (by decide) (fun c => ?_) (fun c => ?_)
      · replace h := h_neg c h
        refine j_locals [0, 1, 2, 3, 4, 5] rfl ?_
        exact tX9_weightOf_73 B E hW hk4 ih (x1) (x2) (x3) (x4) (x5) (h4) h
      · replace h := h_pos c h
        refine j_iload_n B dX9_weightOf_48 rfl 2 rfl ?_
        refine j_aload B dX9_weightOf_49 4 rfl ?_
        refine gf_RX9_373 B rfl ((h4).1) (h4).2.2.1 dX9_weightOf_51 ?_
        refine j_iload B dX9_weightOf_54 5 rfl ?_
        obtain ⟨b3, h⟩ := h_inb h
        refine j_iald B ((h4).2.2.2.2) b3 dX9_weightOf_56 ?_
        refine j_bipush B dX9_weightOf_57 (v := 13) (by decide) ?_
        refine j_aload B dX9_weightOf_59 4 rfl ?_
        refine gf_RX9_144 B rfl ((h4).1) dX9_weightOf_61 ?_
        refine j_iconst B dX9_weightOf_64 (v := 1) (by decide) ?_
        refine j_isub B dX9_weightOf_65 ?_
        refine j_iload B dX9_weightOf_66 5 rfl ?_
        refine j_isub B dX9_weightOf_68 ?_
        refine j_isub B dX9_weightOf_69 ?_
        refine j_imul B dX9_weightOf_70 ?_
        refine j_iadd B dX9_weightOf_71 ?_
        refine j_istore_n (L' := [(2, .int (x2 + ((vi0 (x4 + 2) x5.toNatClampNeg) * (13 - (((vi0 x4 2) - 1) - x5))))), (0, .ref (G.1 + 0)), (1, .int x1), (3, .int x3), (4, .ref (G.1 + x4)), (5, .int x5)]) B dX9_weightOf_72 rfl (by decide) rfl ?_
        refine j_locals [1, 2, 0, 3, 4, 5] rfl ?_
        exact tX9_weightOf_73 B E hW hk4 ih (x1) ((x2 + ((vi0 (x4 + 2) x5.toNatClampNeg) * (13 - (((vi0 x4 2) - 1) - x5))))) (x3) (x4) (x5) (h4) h
def fX9_weightOf_4 (ns : Nat) (vi0 : VI) : Nat → Int32 → Int32 → Int32 → Option (Int32)
  | 0, _, _, _ => none
  | F + 1, x1, x2, x3 => if (vi0 0 1) ≤ x3 then some (x2) else if inb x3 ns = true then fX9_weightOf_26 ns vi0 (fX9_weightOf_4 ns vi0 F) FU x1 x2 x3 ((98 + 5 * x3.toNatClampNeg) + 1) 0 else none
theorem tX9_weightOf_4 {G : GT} {sv : SV} {vi0 : VI} {vl0 : VL} {ns : Nat} {Γ : CT} {r : Int32} (B : Base G Γ mX9_weightOf 0 0 0) (E : Ends G Γ 0 0 (QI r sv vi0 vl0)) (hW : WF sv ns) : ∀ (F : Nat) (x1 : Int32) (x2 : Int32) (x3 : Int32), fX9_weightOf_4 ns vi0 F x1 x2 x3 = some (r) → J G Γ 0 0 4 [(0, .ref (G.1 + 0)), (1, .int x1), (2, .int x2), (3, .int x3)] [] sv vi0 vl0 := by
  intro F
  induction F with
  | zero =>
    intro x1 x2 x3  h
    cases (show (none : Option (Int32)) = some (r) from h)
  | succ F ih =>
    intro x1 x2 x3  h
    rw [fX9_weightOf_4] at h
    refine j_iload_n B dX9_weightOf_4 rfl 3 rfl ?_
    refine j_aload_n B dX9_weightOf_5 rfl 0 rfl ?_
    refine gf_RX9_94 B rfl (wf_2 hW) dX9_weightOf_6 ?_
    refine j_icmp_ge (tgt := 85) B dX9_weightOf_9 (by decide) (fun c => ?_) (fun c => ?_)
    · replace h := h_pos c h
      refine j_iload_n B dX9_weightOf_85 rfl 2 rfl ?_
      have e1 := Option.some.inj h
      subst e1
      exact j_iret B E rfl dX9_weightOf_86 (Nat.le_refl _) (Nat.le_refl _) ⟨rfl, rfl, rfl, rfl⟩
    · replace h := h_neg c h
      refine j_aload_n B dX9_weightOf_12 rfl 0 rfl ?_
      refine gf_RX9_11 B rfl (wf_2 hW) (wf_100 hW) dX9_weightOf_13 ?_
      refine j_iload_n B dX9_weightOf_16 rfl 3 rfl ?_
      obtain ⟨b1, h⟩ := h_inb h
      refine j_aald B (wf_3 hW) (Or.inr (Or.inr rfl)) (wf_in5 hW b1) (wf_house hW b1) dX9_weightOf_17 ?_
      refine gf_RX9_141 B rfl ((wf_sill hW b1).1) (wf_sill hW b1).2.2.1 dX9_weightOf_18 ?_
      refine j_astore (L' := [(4, .ref (G.1 + ((98 + 5 * x3.toNatClampNeg) + 1))), (0, .ref (G.1 + 0)), (1, .int x1), (2, .int x2), (3, .int x3)]) B dX9_weightOf_21 (by decide) rfl ?_
      refine j_iconst B dX9_weightOf_23 (v := 0) (by decide) ?_
      refine j_istore (L' := [(5, .int 0), (4, .ref (G.1 + ((98 + 5 * x3.toNatClampNeg) + 1))), (0, .ref (G.1 + 0)), (1, .int x1), (2, .int x2), (3, .int x3)]) B dX9_weightOf_24 (by decide) rfl ?_
      refine j_locals [2, 3, 4, 5, 1, 0] rfl ?_
      exact tX9_weightOf_26 B E hW ih FU (x1) (x2) (x3) (((98 + 5 * x3.toNatClampNeg) + 1)) (0) ((wf_sill hW b1).2.2.2.2.2) h
def fX9_weightOf (ns : Nat) (x1 : Int32) (vi0 : VI) : Option (Int32) := fX9_weightOf_4 ns vi0 FU x1 0 0
theorem tX9_weightOf {G : GT} {sv : SV} {vi0 : VI} {vl0 : VL} {ns : Nat} {x1 : Int32} {r : Int32} (hW : WF sv ns) (h : fX9_weightOf ns x1 vi0 = some (r)) : Call G mX9_weightOf 0 0 0 [.ref (G.1 + 0), .int x1] sv vi0 vl0 (QI r sv vi0 vl0) := by
  refine j_mk (by decide +kernel) (Nat.le_of_ble_eq_true rfl) (fun Γ B E => ?_)
  show J G Γ 0 0 0 [(0, .ref (G.1 + 0)), (1, .int x1)] [] sv vi0 vl0
  unfold fX9_weightOf at h
  refine j_iconst B dX9_weightOf_0 (v := 0) (by decide) ?_
  refine j_istore_n (L' := [(2, .int 0), (0, .ref (G.1 + 0)), (1, .int x1)]) B dX9_weightOf_1 rfl (by decide) rfl ?_
  refine j_iconst B dX9_weightOf_2 (v := 0) (by decide) ?_
  refine j_istore_n (L' := [(3, .int 0), (2, .int 0), (0, .ref (G.1 + 0)), (1, .int x1)]) B dX9_weightOf_3 rfl (by decide) rfl ?_
  refine j_locals [2, 3, 1, 0] rfl ?_
  exact tX9_weightOf_4 B E hW FU (x1) (0) (0)  h
def fX9_greatestCommon_34  (x2 : Int32) : Option (Int32) := some (((if x2 < 1 then 1 else x2) : Int32))
theorem tX9_greatestCommon_34 {G : GT} {sv : SV} {vi0 : VI} {vl0 : VL} {Γ : CT} {r : Int32} (B : Base G Γ mX9_greatestCommon 2 0 0) (E : Ends G Γ 0 0 (QI r sv vi0 vl0)) : ∀ (x2 : Int32), fX9_greatestCommon_34  x2 = some (r) → J G Γ 0 0 34 [(2, .int x2)] [] sv vi0 vl0 := by
  intro x2  h
  unfold fX9_greatestCommon_34 at h
  refine j_iload_n B dX9_greatestCommon_34 rfl 0 rfl ?_
  refine j_iconst B dX9_greatestCommon_35 (v := 1) (by decide) ?_
  refine j_mmax B (jt_RX9_376).2.2.1 wst_J9_max_7cf53 wini_RJ9 wcm_max (by decide) (Nat.le_refl _) (Nat.le_refl _) (Nat.le_of_ble_eq_true rfl) dX9_greatestCommon_36 ?_
  have e1 := Option.some.inj h
  subst e1
  exact j_iret B E rfl dX9_greatestCommon_39 (Nat.le_refl _) (Nat.le_refl _) ⟨rfl, rfl, rfl, rfl⟩
def fX9_greatestCommon_7  : Nat → Int32 → Int32 → Int32 → Option (Int32)
  | 0, _, _, _ => none
  | F + 1, x2, x3, x4 => if 64 ≤ x4 then fX9_greatestCommon_34  x2 else if x3 ≤ 0 then fX9_greatestCommon_34  x2 else if x3 = 0 then none else fX9_greatestCommon_7  F x3 (x2 - x2 / x3 * x3) (x4 + 1)
theorem tX9_greatestCommon_7 {G : GT} {sv : SV} {vi0 : VI} {vl0 : VL} {Γ : CT} {r : Int32} (B : Base G Γ mX9_greatestCommon 2 0 0) (E : Ends G Γ 0 0 (QI r sv vi0 vl0)) : ∀ (F : Nat) (x2 : Int32) (x3 : Int32) (x4 : Int32), fX9_greatestCommon_7  F x2 x3 x4 = some (r) → J G Γ 0 0 7 [(2, .int x2), (3, .int x3), (4, .int x4)] [] sv vi0 vl0 := by
  intro F
  induction F with
  | zero =>
    intro x2 x3 x4  h
    cases (show (none : Option (Int32)) = some (r) from h)
  | succ F ih =>
    intro x2 x3 x4  h
    rw [fX9_greatestCommon_7] at h
    refine j_iload B dX9_greatestCommon_7 2 rfl ?_
    refine j_bipush B dX9_greatestCommon_9 (v := 64) (by decide) ?_
    refine j_icmp_ge (tgt := 34) B dX9_greatestCommon_11 (by decide) (fun c => ?_) (fun c => ?_)
    · replace h := h_pos c h
      refine j_locals [0] rfl ?_
      exact tX9_greatestCommon_34 B E  (x2)  h
    · replace h := h_neg c h
      refine j_iload_n B dX9_greatestCommon_14 rfl 1 rfl ?_
      refine j_if_le (tgt := 34) B dX9_greatestCommon_15 (by decide) (fun c => ?_) (fun c => ?_)
      · replace h := h_pos c h
        refine j_locals [0] rfl ?_
        exact tX9_greatestCommon_34 B E  (x2)  h
      · replace h := h_neg c h
        refine j_iload_n B dX9_greatestCommon_18 rfl 0 rfl ?_
        refine j_iload_n B dX9_greatestCommon_19 rfl 1 rfl ?_
        obtain ⟨b1, h⟩ := h_nz h
        refine j_irem B dX9_greatestCommon_20 b1 ?_
        refine j_istore (L' := [(5, .int (x2 - x2 / x3 * x3)), (2, .int x2), (3, .int x3), (4, .int x4)]) B dX9_greatestCommon_21 (by decide) rfl ?_
        refine j_iload_n B dX9_greatestCommon_23 rfl 2 rfl ?_
        refine j_istore_n (L' := [(2, .int x3), (5, .int (x2 - x2 / x3 * x3)), (3, .int x3), (4, .int x4)]) B dX9_greatestCommon_24 rfl (by decide) rfl ?_
        refine j_iload B dX9_greatestCommon_25 1 rfl ?_
        refine j_istore_n (L' := [(3, .int (x2 - x2 / x3 * x3)), (2, .int x3), (5, .int (x2 - x2 / x3 * x3)), (4, .int x4)]) B dX9_greatestCommon_27 rfl (by decide) rfl ?_
        refine j_iinc (v := (x4 + 1)) (L' := [(4, .int (x4 + 1)), (3, .int (x2 - x2 / x3 * x3)), (2, .int x3), (5, .int (x2 - x2 / x3 * x3))]) B dX9_greatestCommon_28 3 rfl rfl (by decide) rfl ?_
        refine j_goto (tgt := 7) B dX9_greatestCommon_31 (by decide) ?_
        refine j_locals [2, 1, 0] rfl ?_
        exact ih (x3) ((x2 - x2 / x3 * x3)) ((x4 + 1))  h
def fX9_greatestCommon (x0 : Int32) (x1 : Int32)  : Option (Int32) := fX9_greatestCommon_7  FU x0 x1 0
theorem tX9_greatestCommon {G : GT} {sv : SV} {vi0 : VI} {vl0 : VL} {x0 : Int32} {x1 : Int32} {r : Int32} (h : fX9_greatestCommon x0 x1 = some (r)) : Call G mX9_greatestCommon 2 0 0 [.int x0, .int x1] sv vi0 vl0 (QI r sv vi0 vl0) := by
  refine j_mk (by decide +kernel) (Nat.le_of_ble_eq_true rfl) (fun Γ B E => ?_)
  show J G Γ 0 0 0 [(0, .int x0), (1, .int x1)] [] sv vi0 vl0
  unfold fX9_greatestCommon at h
  refine j_iload_n B dX9_greatestCommon_0 rfl 0 rfl ?_
  refine j_istore_n (L' := [(2, .int x0), (0, .int x0), (1, .int x1)]) B dX9_greatestCommon_1 rfl (by decide) rfl ?_
  refine j_iload_n B dX9_greatestCommon_2 rfl 2 rfl ?_
  refine j_istore_n (L' := [(3, .int x1), (2, .int x0), (0, .int x0), (1, .int x1)]) B dX9_greatestCommon_3 rfl (by decide) rfl ?_
  refine j_iconst B dX9_greatestCommon_4 (v := 0) (by decide) ?_
  refine j_istore (L' := [(4, .int 0), (3, .int x1), (2, .int x0), (0, .int x0), (1, .int x1)]) B dX9_greatestCommon_5 (by decide) rfl ?_
  refine j_locals [2, 1, 0] rfl ?_
  exact tX9_greatestCommon_7 B E  FU (x0) (x1) (0)  h
def fX9_likely_24 (ns : Nat) (vi0 : VI) : Nat → Int32 → Int32 → Int32 → Int32 → Option (Int64)
  | 0, _, _, _, _ => none
  | F + 1, x1, x2, x3, x4 => if 6 ≤ x4 then if x3 = 0 then some (x2.toInt64) else (fX9_weightOf ns x1 vi0).bind fun r3 => (fX9_greatestCommon x3 r3).bind fun r4 => if x2 = 0 then if r4 = 0 then none else some ((r3 / r4).toInt64) else if r4 = 0 then none else some ((x3 / r4).toInt64) else (fX9_weightOf ns x4 vi0).bind fun r7 => fX9_likely_24 ns vi0 F x1 x2 (x3 + r7) (x4 + 1)
theorem tX9_likely_24 {G : GT} {sv : SV} {vi0 : VI} {vl0 : VL} {ns : Nat} {Γ : CT} {r : Int64} (B : Base G Γ mX9_likely 3 0 0) (E : Ends G Γ 0 0 (QJ r sv vi0 vl0)) (hW : WF sv ns) : ∀ (F : Nat) (x1 : Int32) (x2 : Int32) (x3 : Int32) (x4 : Int32), fX9_likely_24 ns vi0 F x1 x2 x3 x4 = some (r) → J G Γ 0 0 24 [(0, .ref (G.1 + 0)), (1, .int x1), (2, .int x2), (3, .int x3), (4, .int x4)] [] sv vi0 vl0 := by
  intro F
  induction F with
  | zero =>
    intro x1 x2 x3 x4  h
    cases (show (none : Option (Int64)) = some (r) from h)
  | succ F ih =>
    intro x1 x2 x3 x4  h
    rw [fX9_likely_24] at h
    refine j_iload B dX9_likely_24 4 rfl ?_
    refine j_bipush B dX9_likely_26 (v := 6) (by decide) ?_
    refine j_icmp_ge (tgt := 46) B dX9_likely_28 (by decide) (fun c => ?_) (fun c => ?_)
    · replace h := h_pos c h
      refine j_iload_n B dX9_likely_46 rfl 3 rfl ?_
      refine j_if_ne (tgt := 53) B dX9_likely_47 (by decide) (fun c => ?_) (fun c => ?_)
      · replace h := h_neg c h
        refine j_aload_n B dX9_likely_53 rfl 0 rfl ?_
        refine j_iload_n B dX9_likely_54 rfl 1 rfl ?_
        obtain ⟨r3, hr3, h⟩ := h_bind h
        refine j_cVI (rest := []) B (tX9_weightOf hW hr3) cls9 (wf_2 hW) jt_RX9_265 wi_X9_weightOf ws_X9_weightOf rfl (by decide) (Nat.le_refl _) (Nat.le_refl _) rfl (Nat.le_of_ble_eq_true rfl) dX9_likely_55 ?_
        refine j_istore (L' := [(4, .int r3), (0, .ref (G.1 + 0)), (1, .int x1), (2, .int x2), (3, .int x3)]) B dX9_likely_58 (by decide) rfl ?_
        refine j_iload_n B dX9_likely_60 rfl 4 rfl ?_
        refine j_iload B dX9_likely_61 0 rfl ?_
        obtain ⟨r4, hr4, h⟩ := h_bind h
        refine j_cSI (rest := []) B (tX9_greatestCommon hr4) jt_RX9_268 wst_X9_greatestCommon rfl (by decide) (Nat.le_refl _) (Nat.le_refl _) rfl (Nat.le_of_ble_eq_true rfl) dX9_likely_63 ?_
        refine j_istore (L' := [(5, .int r4), (4, .int r3), (0, .ref (G.1 + 0)), (1, .int x1), (2, .int x2), (3, .int x3)]) B dX9_likely_66 (by decide) rfl ?_
        refine j_iload_n B dX9_likely_68 rfl 4 rfl ?_
        refine j_if_ne (tgt := 77) B dX9_likely_69 (by decide) (fun c => ?_) (fun c => ?_)
        · replace h := h_neg c h
          refine j_iload_n B dX9_likely_77 rfl 5 rfl ?_
          refine j_iload B dX9_likely_78 0 rfl ?_
          obtain ⟨b5, h⟩ := h_nz h
          refine j_idiv B dX9_likely_80 b5 ?_
          refine j_i2l B dX9_likely_81 ?_
          have e1 := Option.some.inj h
          subst e1
          exact j_lret B E rfl dX9_likely_82 (Nat.le_refl _) (Nat.le_refl _) ⟨rfl, rfl, rfl, rfl⟩
        · replace h := h_pos c h
          refine j_iload B dX9_likely_72 1 rfl ?_
          refine j_goto (tgt := 78) B dX9_likely_74 (by decide) ?_
          refine j_iload B dX9_likely_78 0 rfl ?_
          obtain ⟨b6, h⟩ := h_nz h
          refine j_idiv B dX9_likely_80 b6 ?_
          refine j_i2l B dX9_likely_81 ?_
          have e1 := Option.some.inj h
          subst e1
          exact j_lret B E rfl dX9_likely_82 (Nat.le_refl _) (Nat.le_refl _) ⟨rfl, rfl, rfl, rfl⟩
      · replace h := h_pos c h
        refine j_iload_n B dX9_likely_50 rfl 2 rfl ?_
        refine j_i2l B dX9_likely_51 ?_
        have e1 := Option.some.inj h
        subst e1
        exact j_lret B E rfl dX9_likely_52 (Nat.le_refl _) (Nat.le_refl _) ⟨rfl, rfl, rfl, rfl⟩
    · replace h := h_neg c h
      refine j_iload_n B dX9_likely_31 rfl 3 rfl ?_
      refine j_aload_n B dX9_likely_32 rfl 0 rfl ?_
      refine j_iload B dX9_likely_33 4 rfl ?_
      obtain ⟨r7, hr7, h⟩ := h_bind h
      refine j_cVI (rest := [.int x3]) B (tX9_weightOf hW hr7) cls9 (wf_2 hW) jt_RX9_265 wi_X9_weightOf ws_X9_weightOf rfl (by decide) (Nat.le_refl _) (Nat.le_refl _) rfl (Nat.le_of_ble_eq_true rfl) dX9_likely_35 ?_
      refine j_iadd B dX9_likely_38 ?_
      refine j_istore_n (L' := [(3, .int (x3 + r7)), (0, .ref (G.1 + 0)), (1, .int x1), (2, .int x2), (4, .int x4)]) B dX9_likely_39 rfl (by decide) rfl ?_
      refine j_iinc (v := (x4 + 1)) (L' := [(4, .int (x4 + 1)), (3, .int (x3 + r7)), (0, .ref (G.1 + 0)), (1, .int x1), (2, .int x2)]) B dX9_likely_40 4 rfl rfl (by decide) rfl ?_
      refine j_goto (tgt := 24) B dX9_likely_43 (by decide) ?_
      refine j_locals [2, 3, 4, 1, 0] rfl ?_
      exact ih (x1) (x2) ((x3 + r7)) ((x4 + 1))  h
def fX9_likely (ns : Nat) (x1 : Int32) (x2 : Int32) (vi0 : VI) : Option (Int64) := (fX9_isOne x1).bind fun r1 => if r1 = true then (fX9_isWithin x2 1).bind fun r2 => if r2 = true then fX9_likely_24 ns vi0 FU x1 x2 0 0 else some ((-9223372036854775808)) else some ((-9223372036854775808))
theorem tX9_likely {G : GT} {sv : SV} {vi0 : VI} {vl0 : VL} {ns : Nat} {x1 : Int32} {x2 : Int32} {r : Int64} (hW : WF sv ns) (h : fX9_likely ns x1 x2 vi0 = some (r)) : Call G mX9_likely 3 0 0 [.ref (G.1 + 0), .int x1, .int x2] sv vi0 vl0 (QJ r sv vi0 vl0) := by
  refine j_mk (by decide +kernel) (Nat.le_of_ble_eq_true rfl) (fun Γ B E => ?_)
  show J G Γ 0 0 0 [(0, .ref (G.1 + 0)), (1, .int x1), (2, .int x2)] [] sv vi0 vl0
  unfold fX9_likely at h
  refine j_iload_n B dX9_likely_0 rfl 1 rfl ?_
  obtain ⟨r1, hr1, h⟩ := h_bind h
  refine j_cSI (rest := []) B (tX9_isOne hr1) jt_RX9_210 wst_X9_isOne rfl (by decide) (Nat.le_refl _) (Nat.le_refl _) rfl (Nat.le_of_ble_eq_true rfl) dX9_likely_1 ?_
  refine j_if_eq (tgt := 15) B dX9_likely_4 (by decide) (fun c => ?_) (fun c => ?_)
  · replace h := h_neg (b2i_0 c) h
    refine j_ldc2 B wk_RX9_234 dX9_likely_15 ?_
    have e1 := Option.some.inj h
    subst e1
    exact j_lret B E rfl dX9_likely_18 (Nat.le_refl _) (Nat.le_refl _) ⟨rfl, rfl, rfl, rfl⟩
  · replace h := h_pos (b2i_1 c) h
    refine j_iload_n B dX9_likely_7 rfl 2 rfl ?_
    refine j_iconst B dX9_likely_8 (v := 1) (by decide) ?_
    obtain ⟨r2, hr2, h⟩ := h_bind h
    refine j_cSI (rest := []) B (tX9_isWithin hr2) jt_RX9_90 wst_X9_isWithin rfl (by decide) (Nat.le_refl _) (Nat.le_refl _) rfl (Nat.le_of_ble_eq_true rfl) dX9_likely_9 ?_
    refine j_if_ne (tgt := 19) B dX9_likely_12 (by decide) (fun c => ?_) (fun c => ?_)
    · replace h := h_pos (b2i_1 c) h
      refine j_iconst B dX9_likely_19 (v := 0) (by decide) ?_
      refine j_istore_n (L' := [(3, .int 0), (0, .ref (G.1 + 0)), (1, .int x1), (2, .int x2)]) B dX9_likely_20 rfl (by decide) rfl ?_
      refine j_iconst B dX9_likely_21 (v := 0) (by decide) ?_
      refine j_istore (L' := [(4, .int 0), (3, .int 0), (0, .ref (G.1 + 0)), (1, .int x1), (2, .int x2)]) B dX9_likely_22 (by decide) rfl ?_
      refine j_locals [2, 3, 4, 1, 0] rfl ?_
      exact tX9_likely_24 B E hW FU (x1) (x2) (0) (0)  h
    · replace h := h_neg (b2i_0 c) h
      refine j_ldc2 B wk_RX9_234 dX9_likely_15 ?_
      have e1 := Option.some.inj h
      subst e1
      exact j_lret B E rfl dX9_likely_18 (Nat.le_refl _) (Nat.le_refl _) ⟨rfl, rfl, rfl, rfl⟩
def fX9_expected_31 (ns : Nat) (vi0 : VI) (k7 : Int32 → Int32 → Int32 → Option (Int32)) (x1 : Int32) (x2 : Int32) (x3 : Int32) : Option (Int32) := k7 x1 x2 (x3 + 1)
theorem tX9_expected_31 {G : GT} {sv : SV} {vi0 : VI} {vl0 : VL} {ns : Nat} {Γ : CT} {r : Int32} {k7 : Int32 → Int32 → Int32 → Option (Int32)} (B : Base G Γ mX9_expected 1 0 0) (E : Ends G Γ 0 0 (QI r sv vi0 vl0)) (hW : WF sv ns) (hk7 : ∀ (x1 : Int32) (x2 : Int32) (x3 : Int32), k7 x1 x2 x3 = some (r) → J G Γ 0 0 7 [(0, .ref (G.1 + 0)), (1, .int x1), (2, .int x2), (3, .int x3)] [] sv vi0 vl0) : ∀ (x1 : Int32) (x2 : Int32) (x3 : Int32), fX9_expected_31 ns vi0 k7 x1 x2 x3 = some (r) → J G Γ 0 0 31 [(0, .ref (G.1 + 0)), (1, .int x1), (2, .int x2), (3, .int x3)] [] sv vi0 vl0 := by
  intro x1 x2 x3  h
  unfold fX9_expected_31 at h
  refine j_iinc (v := (x3 + 1)) (L' := [(3, .int (x3 + 1)), (0, .ref (G.1 + 0)), (1, .int x1), (2, .int x2)]) B dX9_expected_31 3 rfl rfl (by decide) rfl ?_
  refine j_goto (tgt := 7) B dX9_expected_34 (by decide) ?_
  refine j_locals [1, 2, 3, 0] rfl ?_
  exact hk7 (x1) (x2) ((x3 + 1))  h
def fX9_expected_7 (ns : Nat) (vi0 : VI) : Nat → Int32 → Int32 → Int32 → Option (Int32)
  | 0, _, _, _ => none
  | F + 1, x1, x2, x3 => if 6 ≤ x3 then some (x1) else (fX9_weightOf ns x3 vi0).bind fun r1 => if r1 ≤ x2 then fX9_expected_31 ns vi0 (fX9_expected_7 ns vi0 F) x1 x2 x3 else fX9_expected_31 ns vi0 (fX9_expected_7 ns vi0 F) x3 r1 x3
theorem tX9_expected_7 {G : GT} {sv : SV} {vi0 : VI} {vl0 : VL} {ns : Nat} {Γ : CT} {r : Int32} (B : Base G Γ mX9_expected 1 0 0) (E : Ends G Γ 0 0 (QI r sv vi0 vl0)) (hW : WF sv ns) : ∀ (F : Nat) (x1 : Int32) (x2 : Int32) (x3 : Int32), fX9_expected_7 ns vi0 F x1 x2 x3 = some (r) → J G Γ 0 0 7 [(0, .ref (G.1 + 0)), (1, .int x1), (2, .int x2), (3, .int x3)] [] sv vi0 vl0 := by
  intro F
  induction F with
  | zero =>
    intro x1 x2 x3  h
    cases (show (none : Option (Int32)) = some (r) from h)
  | succ F ih =>
    intro x1 x2 x3  h
    rw [fX9_expected_7] at h
    refine j_iload_n B dX9_expected_7 rfl 3 rfl ?_
    refine j_bipush B dX9_expected_8 (v := 6) (by decide) ?_
    refine j_icmp_ge (tgt := 37) B dX9_expected_10 (by decide) (fun c => ?_) (fun c => ?_)
    · replace h := h_pos c h
      refine j_iload_n B dX9_expected_37 rfl 1 rfl ?_
      have e1 := Option.some.inj h
      subst e1
      exact j_iret B E rfl dX9_expected_38 (Nat.le_refl _) (Nat.le_refl _) ⟨rfl, rfl, rfl, rfl⟩
    · replace h := h_neg c h
      refine j_aload_n B dX9_expected_13 rfl 0 rfl ?_
      refine j_iload_n B dX9_expected_14 rfl 3 rfl ?_
      obtain ⟨r1, hr1, h⟩ := h_bind h
      refine j_cVI (rest := []) B (tX9_weightOf hW hr1) cls9 (wf_2 hW) jt_RX9_265 wi_X9_weightOf ws_X9_weightOf rfl (by decide) (Nat.le_refl _) (Nat.le_refl _) rfl (Nat.le_of_ble_eq_true rfl) dX9_expected_15 ?_
      refine j_istore (L' := [(4, .int r1), (0, .ref (G.1 + 0)), (1, .int x1), (2, .int x2), (3, .int x3)]) B dX9_expected_18 (by decide) rfl ?_
      refine j_iload B dX9_expected_20 0 rfl ?_
      refine j_iload_n B dX9_expected_22 rfl 3 rfl ?_
      refine j_icmp_le (tgt := 31) B dX9_expected_23 (by decide) (fun c => ?_) (fun c => ?_)
      · replace h := h_pos c h
        refine j_locals [1, 2, 3, 4] rfl ?_
        exact tX9_expected_31 B E hW ih (x1) (x2) (x3)  h
      · replace h := h_neg c h
        refine j_iload_n B dX9_expected_26 rfl 4 rfl ?_
        refine j_istore_n (L' := [(1, .int x3), (4, .int r1), (0, .ref (G.1 + 0)), (2, .int x2), (3, .int x3)]) B dX9_expected_27 rfl (by decide) rfl ?_
        refine j_iload B dX9_expected_28 1 rfl ?_
        refine j_istore_n (L' := [(2, .int r1), (1, .int x3), (4, .int r1), (0, .ref (G.1 + 0)), (3, .int x3)]) B dX9_expected_30 rfl (by decide) rfl ?_
        refine j_locals [3, 1, 0, 4] rfl ?_
        exact tX9_expected_31 B E hW ih (x3) (r1) (x3)  h
def fX9_expected (ns : Nat) (vi0 : VI) : Option (Int32) := fX9_expected_7 ns vi0 FU (-2) 0 0
theorem tX9_expected {G : GT} {sv : SV} {vi0 : VI} {vl0 : VL} {ns : Nat} {r : Int32} (hW : WF sv ns) (h : fX9_expected ns vi0 = some (r)) : Call G mX9_expected 1 0 0 [.ref (G.1 + 0)] sv vi0 vl0 (QI r sv vi0 vl0) := by
  refine j_mk (by decide +kernel) (Nat.le_of_ble_eq_true rfl) (fun Γ B E => ?_)
  show J G Γ 0 0 0 [(0, .ref (G.1 + 0))] [] sv vi0 vl0
  unfold fX9_expected at h
  refine j_bipush B dX9_expected_0 (v := (-2)) (by decide) ?_
  refine j_istore_n (L' := [(1, .int (-2)), (0, .ref (G.1 + 0))]) B dX9_expected_2 rfl (by decide) rfl ?_
  refine j_iconst B dX9_expected_3 (v := 0) (by decide) ?_
  refine j_istore_n (L' := [(2, .int 0), (1, .int (-2)), (0, .ref (G.1 + 0))]) B dX9_expected_4 rfl (by decide) rfl ?_
  refine j_iconst B dX9_expected_5 (v := 0) (by decide) ?_
  refine j_istore_n (L' := [(3, .int 0), (2, .int 0), (1, .int (-2)), (0, .ref (G.1 + 0))]) B dX9_expected_6 rfl (by decide) rfl ?_
  refine j_locals [3, 2, 1, 0] rfl ?_
  exact tX9_expected_7 B E hW FU ((-2)) (0) (0)  h
