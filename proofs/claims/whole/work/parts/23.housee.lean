def fX9_put (x1 : Int32) (x2 : Int32) (x3 : Int64) (vi0 : VI) (vl0 : VL) : Option (Int32 × VL) := (fX9_refusalOfPlace x1 x2 vi0).bind fun r1 => if 0 ≤ r1 then if inb x1 6 = true then (fX6_lowestBits (51 + 2 * x1.toNatClampNeg) x3 vi0).bind fun r3 => if inb x2 60 = true then some (1, (j_up vl0 ((51 + 2 * x1.toNatClampNeg) + 1) x2.toNatClampNeg r3)) else none else none else some (r1, vl0)
theorem tX9_put {G : GT} {sv : SV} {vi0 : VI} {vl0 : VL} {ns : Nat} {x1 : Int32} {x2 : Int32} {x3 : Int64} {r : Int32} {vl' : VL} (hW : WF sv ns) (h : fX9_put x1 x2 x3 vi0 vl0 = some (r, vl')) : Call G mX9_put 3 0 0 [.ref (G.1 + 0), .int x1, .int x2, .long x3] sv vi0 vl0 (QI r sv vi0 vl') := by
  refine j_mk (by decide +kernel) (Nat.le_of_ble_eq_true rfl) (fun Γ B E => ?_)
  show J G Γ 0 0 0 [(0, .ref (G.1 + 0)), (1, .int x1), (2, .int x2), (3, .long x3)] [] sv vi0 vl0
  unfold fX9_put at h
  refine j_aload_n B dX9_put_0 rfl 0 rfl ?_
  refine j_iload_n B dX9_put_1 rfl 1 rfl ?_
  refine j_iload_n B dX9_put_2 rfl 2 rfl ?_
  obtain ⟨r1, hr1, h⟩ := h_bind h
  refine j_cVI (rest := []) B (tX9_refusalOfPlace hW hr1) cls9 (wf_2 hW) jt_RX9_336 wi_X9_refusalOfPlace ws_X9_refusalOfPlace rfl (by decide) (Nat.le_refl _) (Nat.le_refl _) rfl (Nat.le_of_ble_eq_true rfl) dX9_put_3 ?_
  refine j_istore (L' := [(5, .int r1), (0, .ref (G.1 + 0)), (1, .int x1), (2, .int x2), (3, .long x3)]) B dX9_put_6 (by decide) rfl ?_
  refine j_iload B dX9_put_8 0 rfl ?_
  refine j_if_ge (tgt := 16) B dX9_put_10 (by decide) (fun c => ?_) (fun c => ?_)
  · replace h := h_pos c h
    refine j_aload_n B dX9_put_16 rfl 1 rfl ?_
    refine gf_RX9_79 B rfl (wf_2 hW) (wf_149 hW) dX9_put_17 ?_
    refine j_iload_n B dX9_put_20 rfl 2 rfl ?_
    obtain ⟨b2, h⟩ := h_inb h
    refine j_aald B (wf_52 hW) (Or.inr (Or.inl rfl)) b2 (wf_shv hW b2) dX9_put_21 ?_
    refine j_astore (L' := [(6, .ref (G.1 + (51 + 2 * x1.toNatClampNeg))), (5, .int r1), (0, .ref (G.1 + 0)), (1, .int x1), (2, .int x2), (3, .long x3)]) B dX9_put_22 (by decide) rfl ?_
    refine j_aload B dX9_put_24 0 rfl ?_
    refine gf_RX9_115 B rfl ((wf_shelf hW b2).1) (wf_shelf hW b2).2.1 dX9_put_26 ?_
    refine j_iload_n B dX9_put_29 rfl 4 rfl ?_
    refine j_aload B dX9_put_30 0 rfl ?_
    refine j_lload_n B dX9_put_32 rfl 5 rfl ?_
    obtain ⟨r3, hr3, h⟩ := h_bind h
    refine j_cVJ (rest := [.int x2, .ref (G.1 + ((51 + 2 * x1.toNatClampNeg) + 1))]) B (tX6_lowestBits (wf_shelf hW b2) hr3) cls6 ((wf_shelf hW b2).1) jt_RX9_339 wi_X6_lowestBits ws_X6_lowestBits rfl (by decide) (Nat.le_refl _) (Nat.le_refl _) rfl (Nat.le_of_ble_eq_true rfl) dX9_put_33 ?_
    obtain ⟨b4, h⟩ := h_inb h
    refine j_last B ((wf_shelf hW b2).2.2) b4 dX9_put_36 ?_
    refine j_iconst B dX9_put_37 (v := 1) (by decide) ?_
    obtain ⟨e1, e2⟩ := Prod.mk.inj (Option.some.inj h)
    subst e1
    subst e2
    exact j_iret B E rfl dX9_put_38 (Nat.le_refl _) (Nat.le_refl _) ⟨rfl, rfl, rfl, rfl⟩
  · replace h := h_neg c h
    refine j_iload B dX9_put_13 0 rfl ?_
    obtain ⟨e1, e2⟩ := Prod.mk.inj (Option.some.inj h)
    subst e1
    subst e2
    exact j_iret B E rfl dX9_put_15 (Nat.le_refl _) (Nat.le_refl _) ⟨rfl, rfl, rfl, rfl⟩
def fX9_element (x1 : Int32) (x2 : Int32) (vi0 : VI) (vl0 : VL) : Option (Int64) := (fX9_refusalOfPlace x1 x2 vi0).bind fun r1 => if 0 ≤ r1 then if inb x1 6 = true then if inb x2 60 = true then some ((vl0 ((51 + 2 * x1.toNatClampNeg) + 1) x2.toNatClampNeg)) else none else none else some ((-9223372036854775808))
theorem tX9_element {G : GT} {sv : SV} {vi0 : VI} {vl0 : VL} {ns : Nat} {x1 : Int32} {x2 : Int32} {r : Int64} (hW : WF sv ns) (h : fX9_element x1 x2 vi0 vl0 = some (r)) : Call G mX9_element 3 0 0 [.ref (G.1 + 0), .int x1, .int x2] sv vi0 vl0 (QJ r sv vi0 vl0) := by
  refine j_mk (by decide +kernel) (Nat.le_of_ble_eq_true rfl) (fun Γ B E => ?_)
  show J G Γ 0 0 0 [(0, .ref (G.1 + 0)), (1, .int x1), (2, .int x2)] [] sv vi0 vl0
  unfold fX9_element at h
  refine j_aload_n B dX9_element_0 rfl 0 rfl ?_
  refine j_iload_n B dX9_element_1 rfl 1 rfl ?_
  refine j_iload_n B dX9_element_2 rfl 2 rfl ?_
  obtain ⟨r1, hr1, h⟩ := h_bind h
  refine j_cVI (rest := []) B (tX9_refusalOfPlace hW hr1) cls9 (wf_2 hW) jt_RX9_336 wi_X9_refusalOfPlace ws_X9_refusalOfPlace rfl (by decide) (Nat.le_refl _) (Nat.le_refl _) rfl (Nat.le_of_ble_eq_true rfl) dX9_element_3 ?_
  refine j_if_ge (tgt := 15) B dX9_element_6 (by decide) (fun c => ?_) (fun c => ?_)
  · replace h := h_pos c h
    refine j_aload_n B dX9_element_15 rfl 0 rfl ?_
    refine gf_RX9_79 B rfl (wf_2 hW) (wf_149 hW) dX9_element_16 ?_
    refine j_iload_n B dX9_element_19 rfl 1 rfl ?_
    obtain ⟨b2, h⟩ := h_inb h
    refine j_aald B (wf_52 hW) (Or.inr (Or.inl rfl)) b2 (wf_shv hW b2) dX9_element_20 ?_
    refine gf_RX9_115 B rfl ((wf_shelf hW b2).1) (wf_shelf hW b2).2.1 dX9_element_21 ?_
    refine j_iload_n B dX9_element_24 rfl 2 rfl ?_
    obtain ⟨b3, h⟩ := h_inb h
    refine j_lald B ((wf_shelf hW b2).2.2) b3 dX9_element_25 ?_
    have e1 := Option.some.inj h
    subst e1
    exact j_lret B E rfl dX9_element_26 (Nat.le_refl _) (Nat.le_refl _) ⟨rfl, rfl, rfl, rfl⟩
  · replace h := h_neg c h
    refine j_ldc2 B wk_RX9_234 dX9_element_9 ?_
    refine j_goto (tgt := 26) B dX9_element_12 (by decide) ?_
    have e1 := Option.some.inj h
    subst e1
    exact j_lret B E rfl dX9_element_26 (Nat.le_refl _) (Nat.le_refl _) ⟨rfl, rfl, rfl, rfl⟩
def fX9_shift (x1 : Int32) (x2 : Int32) (x3 : Int32) (x4 : Int32) (x5 : Int32) (vi0 : VI) (vl0 : VL) : Option (Int32 × VL) := (fX9_isShelf x1).bind fun r1 => if r1 = true then (fX9_isShelf x3).bind fun r2 => if r2 = true then if inb x1 6 = true then if inb x3 6 = true then if (vi0 (51 + 2 * x1.toNatClampNeg) 0) = 0 then some ((-11), vl0) else if (vi0 (51 + 2 * x3.toNatClampNeg) 0) = 0 then some ((-11), vl0) else (fX6_isRow (51 + 2 * x1.toNatClampNeg) vi0).bind fun r5 => if r5 = true then (fX6_isRow (51 + 2 * x3.toNatClampNeg) vi0).bind fun r6 => if r6 = true then if (vi0 (51 + 2 * x1.toNatClampNeg) 2) = (vi0 (51 + 2 * x3.toNatClampNeg) 2) then (fX6_hasPlaces (51 + 2 * x1.toNatClampNeg) x2 x5 vi0).bind fun r7 => if r7 = true then (fX6_hasPlaces (51 + 2 * x3.toNatClampNeg) x4 x5 vi0).bind fun r8 => if r8 = true then if cpok x2 x4 x5 60 60 = true then some (x5, (j_row vl0 ((51 + 2 * x3.toNatClampNeg) + 1) (va_cpy (vl0 ((51 + 2 * x1.toNatClampNeg) + 1)) (vl0 ((51 + 2 * x3.toNatClampNeg) + 1)) x2.toNatClampNeg x4.toNatClampNeg x5.toNatClampNeg))) else none else some ((-13), vl0) else some ((-13), vl0) else some ((-12), vl0) else some ((-12), vl0) else some ((-12), vl0) else none else none else some ((-1), vl0) else some ((-1), vl0)
theorem tX9_shift {G : GT} {sv : SV} {vi0 : VI} {vl0 : VL} {ns : Nat} {x1 : Int32} {x2 : Int32} {x3 : Int32} {x4 : Int32} {x5 : Int32} {r : Int32} {vl' : VL} (hW : WF sv ns) (h : fX9_shift x1 x2 x3 x4 x5 vi0 vl0 = some (r, vl')) : Call G mX9_shift 2 0 0 [.ref (G.1 + 0), .int x1, .int x2, .int x3, .int x4, .int x5] sv vi0 vl0 (QI r sv vi0 vl') := by
  refine j_mk (by decide +kernel) (Nat.le_of_ble_eq_true rfl) (fun Γ B E => ?_)
  show J G Γ 0 0 0 [(0, .ref (G.1 + 0)), (1, .int x1), (2, .int x2), (3, .int x3), (4, .int x4), (5, .int x5)] [] sv vi0 vl0
  unfold fX9_shift at h
  refine j_iload_n B dX9_shift_0 rfl 1 rfl ?_
  obtain ⟨r1, hr1, h⟩ := h_bind h
  refine j_cSI (rest := []) B (tX9_isShelf hr1) jt_RX9_101 wst_X9_isShelf rfl (by decide) (Nat.le_refl _) (Nat.le_refl _) rfl (Nat.le_of_ble_eq_true rfl) dX9_shift_1 ?_
  refine j_if_eq (tgt := 14) B dX9_shift_4 (by decide) (fun c => ?_) (fun c => ?_)
  · replace h := h_neg (b2i_0 c) h
    refine j_iconst B dX9_shift_14 (v := (-1)) (by decide) ?_
    obtain ⟨e1, e2⟩ := Prod.mk.inj (Option.some.inj h)
    subst e1
    subst e2
    exact j_iret B E rfl dX9_shift_15 (Nat.le_refl _) (Nat.le_refl _) ⟨rfl, rfl, rfl, rfl⟩
  · replace h := h_pos (b2i_1 c) h
    refine j_iload_n B dX9_shift_7 rfl 3 rfl ?_
    obtain ⟨r2, hr2, h⟩ := h_bind h
    refine j_cSI (rest := []) B (tX9_isShelf hr2) jt_RX9_101 wst_X9_isShelf rfl (by decide) (Nat.le_refl _) (Nat.le_refl _) rfl (Nat.le_of_ble_eq_true rfl) dX9_shift_8 ?_
    refine j_if_ne (tgt := 16) B dX9_shift_11 (by decide) (fun c => ?_) (fun c => ?_)
    · replace h := h_pos (b2i_1 c) h
      refine j_aload_n B dX9_shift_16 rfl 0 rfl ?_
      refine gf_RX9_79 B rfl (wf_2 hW) (wf_149 hW) dX9_shift_17 ?_
      refine j_iload_n B dX9_shift_20 rfl 1 rfl ?_
      obtain ⟨b3, h⟩ := h_inb h
      refine j_aald B (wf_52 hW) (Or.inr (Or.inl rfl)) b3 (wf_shv hW b3) dX9_shift_21 ?_
      refine j_astore (L' := [(6, .ref (G.1 + (51 + 2 * x1.toNatClampNeg))), (0, .ref (G.1 + 0)), (1, .int x1), (2, .int x2), (3, .int x3), (4, .int x4), (5, .int x5)]) B dX9_shift_22 (by decide) rfl ?_
      refine j_aload_n B dX9_shift_24 rfl 1 rfl ?_
      refine gf_RX9_79 B rfl (wf_2 hW) (wf_149 hW) dX9_shift_25 ?_
      refine j_iload_n B dX9_shift_28 rfl 4 rfl ?_
      obtain ⟨b4, h⟩ := h_inb h
      refine j_aald B (wf_52 hW) (Or.inr (Or.inl rfl)) b4 (wf_shv hW b4) dX9_shift_29 ?_
      refine j_astore (L' := [(7, .ref (G.1 + (51 + 2 * x3.toNatClampNeg))), (6, .ref (G.1 + (51 + 2 * x1.toNatClampNeg))), (0, .ref (G.1 + 0)), (1, .int x1), (2, .int x2), (3, .int x3), (4, .int x4), (5, .int x5)]) B dX9_shift_30 (by decide) rfl ?_
      refine j_aload B dX9_shift_32 1 rfl ?_
      refine gf_RX9_105 B rfl ((wf_shelf hW b3).1) dX9_shift_34 ?_
      refine j_if_eq (tgt := 48) B dX9_shift_37 (by decide) (fun c => ?_) (fun c => ?_)
      · replace h := h_pos c h
        refine j_bipush B dX9_shift_48 (v := (-11)) (by decide) ?_
        obtain ⟨e1, e2⟩ := Prod.mk.inj (Option.some.inj h)
        subst e1
        subst e2
        exact j_iret B E rfl dX9_shift_50 (Nat.le_refl _) (Nat.le_refl _) ⟨rfl, rfl, rfl, rfl⟩
      · replace h := h_neg c h
        refine j_aload B dX9_shift_40 0 rfl ?_
        refine gf_RX9_105 B rfl ((wf_shelf hW b4).1) dX9_shift_42 ?_
        refine j_if_ne (tgt := 51) B dX9_shift_45 (by decide) (fun c => ?_) (fun c => ?_)
        · replace h := h_neg c h
          refine j_aload B dX9_shift_51 1 rfl ?_
          obtain ⟨r5, hr5, h⟩ := h_bind h
          refine j_cVI (rest := []) B (tX6_isRow (wf_shelf hW b3) hr5) cls6 ((wf_shelf hW b3).1) jt_RX9_343 wi_X6_isRow ws_X6_isRow rfl (by decide) (Nat.le_refl _) (Nat.le_refl _) rfl (Nat.le_of_ble_eq_true rfl) dX9_shift_53 ?_
          refine j_if_eq (tgt := 80) B dX9_shift_56 (by decide) (fun c => ?_) (fun c => ?_)
          · replace h := h_neg (b2i_0 c) h
            refine j_bipush B dX9_shift_80 (v := (-12)) (by decide) ?_
            obtain ⟨e1, e2⟩ := Prod.mk.inj (Option.some.inj h)
            subst e1
            subst e2
            exact j_iret B E rfl dX9_shift_82 (Nat.le_refl _) (Nat.le_refl _) ⟨rfl, rfl, rfl, rfl⟩
          · replace h := h_pos (b2i_1 c) h
            refine j_aload B dX9_shift_59 0 rfl ?_
            obtain ⟨r6, hr6, h⟩ := h_bind h
            refine j_cVI (rest := []) B (tX6_isRow (wf_shelf hW b4) hr6) cls6 ((wf_shelf hW b4).1) jt_RX9_343 wi_X6_isRow ws_X6_isRow rfl (by decide) (Nat.le_refl _) (Nat.le_refl _) rfl (Nat.le_of_ble_eq_true rfl) dX9_shift_61 ?_
            refine j_if_eq (tgt := 80) B dX9_shift_64 (by decide) (fun c => ?_) (fun c => ?_)
            · replace h := h_neg (b2i_0 c) h
              refine j_bipush B dX9_shift_80 (v := (-12)) (by decide) ?_
              obtain ⟨e1, e2⟩ := Prod.mk.inj (Option.some.inj h)
              subst e1
              subst e2
              exact j_iret B E rfl dX9_shift_82 (Nat.le_refl _) (Nat.le_refl _) ⟨rfl, rfl, rfl, rfl⟩
            · replace h := h_pos (b2i_1 c) h
              refine j_aload B dX9_shift_67 1 rfl ?_
              refine gf_RX9_330 B rfl ((wf_shelf hW b3).1) dX9_shift_69 ?_
              refine j_aload B dX9_shift_72 0 rfl ?_
              refine gf_RX9_330 B rfl ((wf_shelf hW b4).1) dX9_shift_74 ?_
              refine j_icmp_eq (tgt := 83) B dX9_shift_77 (by decide) (fun c => ?_) (fun c => ?_)
              · replace h := h_pos c h
                refine j_aload B dX9_shift_83 1 rfl ?_
                refine j_iload_n B dX9_shift_85 rfl 4 rfl ?_
                refine j_iload B dX9_shift_86 7 rfl ?_
                obtain ⟨r7, hr7, h⟩ := h_bind h
                refine j_cVI (rest := []) B (tX6_hasPlaces (wf_shelf hW b3) hr7) cls6 ((wf_shelf hW b3).1) jt_RX9_346 wi_X6_hasPlaces ws_X6_hasPlaces rfl (by decide) (Nat.le_refl _) (Nat.le_refl _) rfl (Nat.le_of_ble_eq_true rfl) dX9_shift_88 ?_
                refine j_if_eq (tgt := 106) B dX9_shift_91 (by decide) (fun c => ?_) (fun c => ?_)
                · replace h := h_neg (b2i_0 c) h
                  refine j_bipush B dX9_shift_106 (v := (-13)) (by decide) ?_
                  obtain ⟨e1, e2⟩ := Prod.mk.inj (Option.some.inj h)
                  subst e1
                  subst e2
                  exact j_iret B E rfl dX9_shift_108 (Nat.le_refl _) (Nat.le_refl _) ⟨rfl, rfl, rfl, rfl⟩
                · replace h := h_pos (b2i_1 c) h
                  refine j_aload B dX9_shift_94 0 rfl ?_
                  refine j_iload B dX9_shift_96 6 rfl ?_
                  refine j_iload B dX9_shift_98 7 rfl ?_
                  obtain ⟨r8, hr8, h⟩ := h_bind h
                  refine j_cVI (rest := []) B (tX6_hasPlaces (wf_shelf hW b4) hr8) cls6 ((wf_shelf hW b4).1) jt_RX9_346 wi_X6_hasPlaces ws_X6_hasPlaces rfl (by decide) (Nat.le_refl _) (Nat.le_refl _) rfl (Nat.le_of_ble_eq_true rfl) dX9_shift_100 ?_
                  refine j_if_ne (tgt := 109) B dX9_shift_103 (by decide) (fun c => ?_) (fun c => ?_)
                  · replace h := h_pos (b2i_1 c) h
                    refine j_aload B dX9_shift_109 1 rfl ?_
                    refine gf_RX9_115 B rfl ((wf_shelf hW b3).1) (wf_shelf hW b3).2.1 dX9_shift_111 ?_
                    refine j_iload_n B dX9_shift_114 rfl 4 rfl ?_
                    refine j_aload B dX9_shift_115 0 rfl ?_
                    refine gf_RX9_115 B rfl ((wf_shelf hW b4).1) (wf_shelf hW b4).2.1 dX9_shift_117 ?_
                    refine j_iload B dX9_shift_120 6 rfl ?_
                    refine j_iload B dX9_shift_122 7 rfl ?_
                    obtain ⟨b9, h⟩ := h_cp h
                    refine j_copyl B ((wf_shelf hW b3).2.2) ((wf_shelf hW b4).2.2) wl_RX9_281 wn_ac wst_ac wini_sys b9.1 b9.2.1 b9.2.2.1 b9.2.2.2.1 b9.2.2.2.2 (by decide) (Nat.le_of_ble_eq_true rfl) dX9_shift_124 ?_
                    refine j_iload B dX9_shift_127 7 rfl ?_
                    obtain ⟨e1, e2⟩ := Prod.mk.inj (Option.some.inj h)
                    subst e1
                    subst e2
                    exact j_iret B E rfl dX9_shift_129 (Nat.le_refl _) (Nat.le_refl _) ⟨rfl, rfl, rfl, rfl⟩
                  · replace h := h_neg (b2i_0 c) h
                    refine j_bipush B dX9_shift_106 (v := (-13)) (by decide) ?_
                    obtain ⟨e1, e2⟩ := Prod.mk.inj (Option.some.inj h)
                    subst e1
                    subst e2
                    exact j_iret B E rfl dX9_shift_108 (Nat.le_refl _) (Nat.le_refl _) ⟨rfl, rfl, rfl, rfl⟩
              · replace h := h_neg c h
                refine j_bipush B dX9_shift_80 (v := (-12)) (by decide) ?_
                obtain ⟨e1, e2⟩ := Prod.mk.inj (Option.some.inj h)
                subst e1
                subst e2
                exact j_iret B E rfl dX9_shift_82 (Nat.le_refl _) (Nat.le_refl _) ⟨rfl, rfl, rfl, rfl⟩
        · replace h := h_pos c h
          refine j_bipush B dX9_shift_48 (v := (-11)) (by decide) ?_
          obtain ⟨e1, e2⟩ := Prod.mk.inj (Option.some.inj h)
          subst e1
          subst e2
          exact j_iret B E rfl dX9_shift_50 (Nat.le_refl _) (Nat.le_refl _) ⟨rfl, rfl, rfl, rfl⟩
    · replace h := h_neg (b2i_0 c) h
      refine j_iconst B dX9_shift_14 (v := (-1)) (by decide) ?_
      obtain ⟨e1, e2⟩ := Prod.mk.inj (Option.some.inj h)
      subst e1
      subst e2
      exact j_iret B E rfl dX9_shift_15 (Nat.le_refl _) (Nat.le_refl _) ⟨rfl, rfl, rfl, rfl⟩
def fX9_taken (x1 : Int32) (x2 : Int32) (vi0 : VI) : Option (Int32) := (fX9_isShelf x1).bind fun r1 => if r1 = true then (fX9_isWithin x2 7).bind fun r2 => if r2 = true then if inb x1 6 = true then if (vi0 (51 + 2 * x1.toNatClampNeg) 0) = 0 then some ((-11)) else if (vi0 (51 + 2 * x1.toNatClampNeg) 0) = 1 then (fX0_has (vi0 (51 + 2 * x1.toNatClampNeg) 1) vi0).bind fun r4 => if r4 = true then if inb (vi0 (51 + 2 * x1.toNatClampNeg) 1) 50 = true then (fX0_isUnder (vi0 48 (vi0 (51 + 2 * x1.toNatClampNeg) 1).toNatClampNeg) x2 vi0).bind fun r6 => if r6 = true then some ((vi0 48 (vi0 (51 + 2 * x1.toNatClampNeg) 1).toNatClampNeg)) else some ((-12)) else none else some ((-12)) else some ((-12)) else none else some ((-1)) else some ((-1))
theorem tX9_taken {G : GT} {sv : SV} {vi0 : VI} {vl0 : VL} {ns : Nat} {x1 : Int32} {x2 : Int32} {r : Int32} (hW : WF sv ns) (h : fX9_taken x1 x2 vi0 = some (r)) : Call G mX9_taken 2 0 0 [.ref (G.1 + 0), .int x1, .int x2] sv vi0 vl0 (QI r sv vi0 vl0) := by
  refine j_mk (by decide +kernel) (Nat.le_of_ble_eq_true rfl) (fun Γ B E => ?_)
  show J G Γ 0 0 0 [(0, .ref (G.1 + 0)), (1, .int x1), (2, .int x2)] [] sv vi0 vl0
  unfold fX9_taken at h
  refine j_iload_n B dX9_taken_0 rfl 1 rfl ?_
  obtain ⟨r1, hr1, h⟩ := h_bind h
  refine j_cSI (rest := []) B (tX9_isShelf hr1) jt_RX9_101 wst_X9_isShelf rfl (by decide) (Nat.le_refl _) (Nat.le_refl _) rfl (Nat.le_of_ble_eq_true rfl) dX9_taken_1 ?_
  refine j_if_eq (tgt := 16) B dX9_taken_4 (by decide) (fun c => ?_) (fun c => ?_)
  · replace h := h_neg (b2i_0 c) h
    refine j_iconst B dX9_taken_16 (v := (-1)) (by decide) ?_
    have e1 := Option.some.inj h
    subst e1
    exact j_iret B E rfl dX9_taken_17 (Nat.le_refl _) (Nat.le_refl _) ⟨rfl, rfl, rfl, rfl⟩
  · replace h := h_pos (b2i_1 c) h
    refine j_iload_n B dX9_taken_7 rfl 2 rfl ?_
    refine j_bipush B dX9_taken_8 (v := 7) (by decide) ?_
    obtain ⟨r2, hr2, h⟩ := h_bind h
    refine j_cSI (rest := []) B (tX9_isWithin hr2) jt_RX9_90 wst_X9_isWithin rfl (by decide) (Nat.le_refl _) (Nat.le_refl _) rfl (Nat.le_of_ble_eq_true rfl) dX9_taken_10 ?_
    refine j_if_ne (tgt := 18) B dX9_taken_13 (by decide) (fun c => ?_) (fun c => ?_)
    · replace h := h_pos (b2i_1 c) h
      refine j_aload_n B dX9_taken_18 rfl 0 rfl ?_
      refine gf_RX9_79 B rfl (wf_2 hW) (wf_149 hW) dX9_taken_19 ?_
      refine j_iload_n B dX9_taken_22 rfl 1 rfl ?_
      obtain ⟨b3, h⟩ := h_inb h
      refine j_aald B (wf_52 hW) (Or.inr (Or.inl rfl)) b3 (wf_shv hW b3) dX9_taken_23 ?_
      refine j_astore_n (L' := [(3, .ref (G.1 + (51 + 2 * x1.toNatClampNeg))), (0, .ref (G.1 + 0)), (1, .int x1), (2, .int x2)]) B dX9_taken_24 rfl (by decide) rfl ?_
      refine j_aload_n B dX9_taken_25 rfl 0 rfl ?_
      refine gf_RX9_105 B rfl ((wf_shelf hW b3).1) dX9_taken_26 ?_
      refine j_if_ne (tgt := 35) B dX9_taken_29 (by decide) (fun c => ?_) (fun c => ?_)
      · replace h := h_neg c h
        refine j_aload_n B dX9_taken_35 rfl 0 rfl ?_
        refine gf_RX9_105 B rfl ((wf_shelf hW b3).1) dX9_taken_36 ?_
        refine j_iconst B dX9_taken_39 (v := 1) (by decide) ?_
        refine j_icmp_ne (tgt := 57) B dX9_taken_40 (by decide) (fun c => ?_) (fun c => ?_)
        · replace h := h_neg c h
          refine j_bipush B dX9_taken_57 (v := (-12)) (by decide) ?_
          have e1 := Option.some.inj h
          subst e1
          exact j_iret B E rfl dX9_taken_59 (Nat.le_refl _) (Nat.le_refl _) ⟨rfl, rfl, rfl, rfl⟩
        · replace h := h_pos c h
          refine j_aload_n B dX9_taken_43 rfl 1 rfl ?_
          refine gf_RX9_73 B rfl (wf_2 hW) (wf_146 hW) dX9_taken_44 ?_
          refine j_aload_n B dX9_taken_47 rfl 0 rfl ?_
          refine gf_RX9_327 B rfl ((wf_shelf hW b3).1) dX9_taken_48 ?_
          obtain ⟨r4, hr4, h⟩ := h_bind h
          refine j_cVI (rest := []) B (tX0_has hW hr4) cls0 (wf_49 hW) jt_RX9_314 wi_X0_has ws_X0_has rfl (by decide) (Nat.le_refl _) (Nat.le_refl _) rfl (Nat.le_of_ble_eq_true rfl) dX9_taken_51 ?_
          refine j_if_ne (tgt := 60) B dX9_taken_54 (by decide) (fun c => ?_) (fun c => ?_)
          · replace h := h_pos (b2i_1 c) h
            refine j_aload_n B dX9_taken_60 rfl 1 rfl ?_
            refine gf_RX9_73 B rfl (wf_2 hW) (wf_146 hW) dX9_taken_61 ?_
            refine gf_RX9_317 B rfl (wf_49 hW) (wf_147 hW) dX9_taken_64 ?_
            refine j_aload_n B dX9_taken_67 rfl 0 rfl ?_
            refine gf_RX9_327 B rfl ((wf_shelf hW b3).1) dX9_taken_68 ?_
            obtain ⟨b5, h⟩ := h_inb h
            refine j_iald B ((wf_50 hW)) b5 dX9_taken_71 ?_
            refine j_istore (L' := [(4, .int (vi0 48 (vi0 (51 + 2 * x1.toNatClampNeg) 1).toNatClampNeg)), (3, .ref (G.1 + (51 + 2 * x1.toNatClampNeg))), (0, .ref (G.1 + 0)), (1, .int x1), (2, .int x2)]) B dX9_taken_72 (by decide) rfl ?_
            refine j_iload B dX9_taken_74 0 rfl ?_
            refine j_iload_n B dX9_taken_76 rfl 4 rfl ?_
            obtain ⟨r6, hr6, h⟩ := h_bind h
            refine j_cSI (rest := []) B (tX0_isUnder hr6) jt_RX9_349 wst_X0_isUnder rfl (by decide) (Nat.le_refl _) (Nat.le_refl _) rfl (Nat.le_of_ble_eq_true rfl) dX9_taken_77 ?_
            refine j_if_eq (tgt := 88) B dX9_taken_80 (by decide) (fun c => ?_) (fun c => ?_)
            · replace h := h_neg (b2i_0 c) h
              refine j_bipush B dX9_taken_88 (v := (-12)) (by decide) ?_
              have e1 := Option.some.inj h
              subst e1
              exact j_iret B E rfl dX9_taken_90 (Nat.le_refl _) (Nat.le_refl _) ⟨rfl, rfl, rfl, rfl⟩
            · replace h := h_pos (b2i_1 c) h
              refine j_iload B dX9_taken_83 0 rfl ?_
              refine j_goto (tgt := 90) B dX9_taken_85 (by decide) ?_
              have e1 := Option.some.inj h
              subst e1
              exact j_iret B E rfl dX9_taken_90 (Nat.le_refl _) (Nat.le_refl _) ⟨rfl, rfl, rfl, rfl⟩
          · replace h := h_neg (b2i_0 c) h
            refine j_bipush B dX9_taken_57 (v := (-12)) (by decide) ?_
            have e1 := Option.some.inj h
            subst e1
            exact j_iret B E rfl dX9_taken_59 (Nat.le_refl _) (Nat.le_refl _) ⟨rfl, rfl, rfl, rfl⟩
      · replace h := h_pos c h
        refine j_bipush B dX9_taken_32 (v := (-11)) (by decide) ?_
        have e1 := Option.some.inj h
        subst e1
        exact j_iret B E rfl dX9_taken_34 (Nat.le_refl _) (Nat.le_refl _) ⟨rfl, rfl, rfl, rfl⟩
    · replace h := h_neg (b2i_0 c) h
      refine j_iconst B dX9_taken_16 (v := (-1)) (by decide) ?_
      have e1 := Option.some.inj h
      subst e1
      exact j_iret B E rfl dX9_taken_17 (Nat.le_refl _) (Nat.le_refl _) ⟨rfl, rfl, rfl, rfl⟩
def fX9_count (x1 : Int32) (vi0 : VI) : Option (Int32) := if x1 = 0 then some ((vi0 0 1)) else if x1 = 1 then some ((vi0 3 1)) else if x1 = 2 then some ((vi0 42 4)) else if x1 = 3 then some ((vi0 47 1)) else if x1 = 4 then some ((vi0 47 3)) else some ((-1))
theorem tX9_count {G : GT} {sv : SV} {vi0 : VI} {vl0 : VL} {ns : Nat} {x1 : Int32} {r : Int32} (hW : WF sv ns) (h : fX9_count x1 vi0 = some (r)) : Call G mX9_count 0 0 0 [.ref (G.1 + 0), .int x1] sv vi0 vl0 (QI r sv vi0 vl0) := by
  refine j_mk (by decide +kernel) (Nat.le_of_ble_eq_true rfl) (fun Γ B E => ?_)
  show J G Γ 0 0 0 [(0, .ref (G.1 + 0)), (1, .int x1)] [] sv vi0 vl0
  unfold fX9_count at h
  refine j_iload_n B dX9_count_0 rfl 1 rfl ?_
  by_cases c0 : x1 = 0
  · replace h := h_pos c0 h
    refine j_tableIn (off := 35) (tgt := 36) B dX9_count_1 (by rw [c0]; decide) (by rw [c0]; decide) (by rw [c0]; decide) (by decide) ?_
    refine j_aload_n B dX9_count_36 rfl 0 rfl ?_
    refine gf_RX9_94 B rfl (wf_2 hW) dX9_count_37 ?_
    have e1 := Option.some.inj h
    subst e1
    exact j_iret B E rfl dX9_count_40 (Nat.le_refl _) (Nat.le_refl _) ⟨rfl, rfl, rfl, rfl⟩
  replace h := h_neg c0 h
  by_cases c1 : x1 = 1
  · replace h := h_pos c1 h
    refine j_tableIn (off := 40) (tgt := 41) B dX9_count_1 (by rw [c1]; decide) (by rw [c1]; decide) (by rw [c1]; decide) (by decide) ?_
    refine j_aload_n B dX9_count_41 rfl 0 rfl ?_
    refine gf_RX9_22 B rfl (wf_2 hW) (wf_102 hW) dX9_count_42 ?_
    refine gf_RX9_157 B rfl (wf_5 hW) dX9_count_45 ?_
    have e1 := Option.some.inj h
    subst e1
    exact j_iret B E rfl dX9_count_48 (Nat.le_refl _) (Nat.le_refl _) ⟨rfl, rfl, rfl, rfl⟩
  replace h := h_neg c1 h
  by_cases c2 : x1 = 2
  · replace h := h_pos c2 h
    refine j_tableIn (off := 48) (tgt := 49) B dX9_count_1 (by rw [c2]; decide) (by rw [c2]; decide) (by rw [c2]; decide) (by decide) ?_
    refine j_aload_n B dX9_count_49 rfl 0 rfl ?_
    refine gf_RX9_66 B rfl (wf_2 hW) (wf_141 hW) dX9_count_50 ?_
    refine gf_RX9_291 B rfl (wf_44 hW) dX9_count_53 ?_
    have e1 := Option.some.inj h
    subst e1
    exact j_iret B E rfl dX9_count_56 (Nat.le_refl _) (Nat.le_refl _) ⟨rfl, rfl, rfl, rfl⟩
  replace h := h_neg c2 h
  by_cases c3 : x1 = 3
  · replace h := h_pos c3 h
    refine j_tableIn (off := 56) (tgt := 57) B dX9_count_1 (by rw [c3]; decide) (by rw [c3]; decide) (by rw [c3]; decide) (by decide) ?_
    refine j_aload_n B dX9_count_57 rfl 0 rfl ?_
    refine gf_RX9_73 B rfl (wf_2 hW) (wf_146 hW) dX9_count_58 ?_
    refine gf_RX9_352 B rfl (wf_49 hW) dX9_count_61 ?_
    have e1 := Option.some.inj h
    subst e1
    exact j_iret B E rfl dX9_count_64 (Nat.le_refl _) (Nat.le_refl _) ⟨rfl, rfl, rfl, rfl⟩
  replace h := h_neg c3 h
  by_cases c4 : x1 = 4
  · replace h := h_pos c4 h
    refine j_tableIn (off := 64) (tgt := 65) B dX9_count_1 (by rw [c4]; decide) (by rw [c4]; decide) (by rw [c4]; decide) (by decide) ?_
    refine j_aload_n B dX9_count_65 rfl 0 rfl ?_
    refine gf_RX9_73 B rfl (wf_2 hW) (wf_146 hW) dX9_count_66 ?_
    refine gf_RX9_311 B rfl (wf_49 hW) dX9_count_69 ?_
    have e1 := Option.some.inj h
    subst e1
    exact j_iret B E rfl dX9_count_72 (Nat.le_refl _) (Nat.le_refl _) ⟨rfl, rfl, rfl, rfl⟩
  replace h := h_neg c4 h
  refine j_tableOut (tgt := 73) B dX9_count_1 (by have n0 := lv_neT c0 (a := 0) (by decide); have n1 := lv_neT c1 (a := 1) (by decide); have n2 := lv_neT c2 (a := 2) (by decide); have n3 := lv_neT c3 (a := 3) (by decide); have n4 := lv_neT c4 (a := 4) (by decide); omega) (by decide) ?_
  refine j_iconst B dX9_count_73 (v := (-1)) (by decide) ?_
  have e1 := Option.some.inj h
  subst e1
  exact j_iret B E rfl dX9_count_74 (Nat.le_refl _) (Nat.le_refl _) ⟨rfl, rfl, rfl, rfl⟩
