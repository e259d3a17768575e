def fX9_laid (ns : Nat) (x1 : Int32) (x2 : Int32) (x3 : Int32) (x4 : Int32) (vi0 : VI) (vl0 : VL) : Option (Int32 × VI) := (fX9_sillAt ns x3 vi0).bind fun r1 => optS r1 (some ((-1), vi0)) fun q2 => (fX9_isShelf x1).bind fun r3 => if r3 = true then (fX9_isWithin x2 40).bind fun r4 => if r4 = true then if x4 < 0 then some ((-1), vi0) else if (x4 - x4 / 10 * 10) ≤ 2 then (fX9_refusalOfBytes x1 vi0).bind fun r5 => if 0 ≤ r5 then if inb x1 6 = true then (fX9_thinkBook q2 (51 + 2 * x1.toNatClampNeg) x2 vi0 vl0).bind fun r7 => if (x4 - x4 / 10 * 10) = 2 then (fX3_unlikeFromAbove 13 (x4 / 10) r7.2).bind fun r9 => some (r9, r7.2) else (fX3_tells 13 (x4 / 10) (x4 - x4 / 10 * 10) r7.2).bind fun r8 => some (r8, r7.2) else none else some (r5, vi0) else some ((-1), vi0) else some ((-1), vi0) else some ((-1), vi0)
theorem tX9_laid {G : GT} {sv : SV} {vi0 : VI} {vl0 : VL} {ns : Nat} {x1 : Int32} {x2 : Int32} {x3 : Int32} {x4 : Int32} {r : Int32} {vi' : VI} (hW : WF sv ns) (h : fX9_laid ns x1 x2 x3 x4 vi0 vl0 = some (r, vi')) : Call G mX9_laid 6 0 0 [.ref (G.1 + 0), .int x1, .int x2, .int x3, .int x4] sv vi0 vl0 (QI r sv vi' vl0) := by
  refine j_mk (by decide +kernel) (Nat.le_of_ble_eq_true rfl) (fun Γ B E => ?_)
  show J G Γ 0 0 0 [(0, .ref (G.1 + 0)), (1, .int x1), (2, .int x2), (3, .int x3), (4, .int x4)] [] sv vi0 vl0
  unfold fX9_laid at h
  refine j_aload_n B dX9_laid_0 rfl 0 rfl ?_
  refine j_iload_n B dX9_laid_1 rfl 3 rfl ?_
  obtain ⟨r1, hr1, h⟩ := h_bind h
  refine j_cVN (rest := []) B (tX9_sillAt hW hr1) cls9 (wf_2 hW) jt_RX9_137 wi_X9_sillAt ws_X9_sillAt rfl (by decide) (Nat.le_refl _) (Nat.le_refl _) rfl (Nat.le_of_ble_eq_true rfl) dX9_laid_2 ?_
  rcases r1 with _ | q2
  · replace h := h_none h
    refine j_astoreN (L' := [(5, .null), (0, .ref (G.1 + 0)), (1, .int x1), (2, .int x2), (3, .int x3), (4, .int x4)]) B dX9_laid_5 (by decide) rfl ?_
    refine j_aloadN B dX9_laid_7 0 rfl ?_
    refine j_ifnullN (tgt := 42) B dX9_laid_9 (by decide) ?_
    refine j_iconst B dX9_laid_42 (v := (-1)) (by decide) ?_
    obtain ⟨e1, e2⟩ := Prod.mk.inj (Option.some.inj h)
    subst e1
    subst e2
    exact j_iret B E rfl dX9_laid_43 (Nat.le_refl _) (Nat.le_refl _) ⟨rfl, rfl, rfl, rfl⟩
  · replace h := h_some h
    have is_q2 := sillAt_is hW hr1
    refine j_astore (L' := [(5, .ref (G.1 + q2)), (0, .ref (G.1 + 0)), (1, .int x1), (2, .int x2), (3, .int x3), (4, .int x4)]) B dX9_laid_5 (by decide) rfl ?_
    refine j_aload B dX9_laid_7 0 rfl ?_
    refine j_ifnull B dX9_laid_9 ?_
    refine j_iload_n B dX9_laid_12 rfl 2 rfl ?_
    obtain ⟨r3, hr3, h⟩ := h_bind h
    refine j_cSI (rest := []) B (tX9_isShelf hr3) jt_RX9_101 wst_X9_isShelf rfl (by decide) (Nat.le_refl _) (Nat.le_refl _) rfl (Nat.le_of_ble_eq_true rfl) dX9_laid_13 ?_
    refine j_if_eq (tgt := 42) B dX9_laid_16 (by decide) (fun c => ?_) (fun c => ?_)
    · replace h := h_neg (b2i_0 c) h
      refine j_iconst B dX9_laid_42 (v := (-1)) (by decide) ?_
      obtain ⟨e1, e2⟩ := Prod.mk.inj (Option.some.inj h)
      subst e1
      subst e2
      exact j_iret B E rfl dX9_laid_43 (Nat.le_refl _) (Nat.le_refl _) ⟨rfl, rfl, rfl, rfl⟩
    · replace h := h_pos (b2i_1 c) h
      refine j_iload_n B dX9_laid_19 rfl 3 rfl ?_
      refine j_bipush B dX9_laid_20 (v := 40) (by decide) ?_
      obtain ⟨r4, hr4, h⟩ := h_bind h
      refine j_cSI (rest := []) B (tX9_isWithin hr4) jt_RX9_90 wst_X9_isWithin rfl (by decide) (Nat.le_refl _) (Nat.le_refl _) rfl (Nat.le_of_ble_eq_true rfl) dX9_laid_22 ?_
      refine j_if_eq (tgt := 42) B dX9_laid_25 (by decide) (fun c => ?_) (fun c => ?_)
      · replace h := h_neg (b2i_0 c) h
        refine j_iconst B dX9_laid_42 (v := (-1)) (by decide) ?_
        obtain ⟨e1, e2⟩ := Prod.mk.inj (Option.some.inj h)
        subst e1
        subst e2
        exact j_iret B E rfl dX9_laid_43 (Nat.le_refl _) (Nat.le_refl _) ⟨rfl, rfl, rfl, rfl⟩
      · replace h := h_pos (b2i_1 c) h
        refine j_iload B dX9_laid_28 5 rfl ?_
        refine j_if_lt (tgt := 42) B dX9_laid_30 (by decide) (fun c => ?_) (fun c => ?_)
        · replace h := h_pos c h
          refine j_iconst B dX9_laid_42 (v := (-1)) (by decide) ?_
          obtain ⟨e1, e2⟩ := Prod.mk.inj (Option.some.inj h)
          subst e1
          subst e2
          exact j_iret B E rfl dX9_laid_43 (Nat.le_refl _) (Nat.le_refl _) ⟨rfl, rfl, rfl, rfl⟩
        · replace h := h_neg c h
          refine j_iload B dX9_laid_33 5 rfl ?_
          refine j_bipush B dX9_laid_35 (v := 10) (by decide) ?_
          refine j_irem B dX9_laid_37 (by decide) ?_
          refine j_iconst B dX9_laid_38 (v := 2) (by decide) ?_
          refine j_icmp_le (tgt := 44) B dX9_laid_39 (by decide) (fun c => ?_) (fun c => ?_)
          · replace h := h_pos c h
            refine j_aload_n B dX9_laid_44 rfl 1 rfl ?_
            refine j_iload_n B dX9_laid_45 rfl 2 rfl ?_
            obtain ⟨r5, hr5, h⟩ := h_bind h
            refine j_cVI (rest := []) B (tX9_refusalOfBytes hW hr5) cls9 (wf_2 hW) jt_RX9_185 wi_X9_refusalOfBytes ws_X9_refusalOfBytes rfl (by decide) (Nat.le_refl _) (Nat.le_refl _) rfl (Nat.le_of_ble_eq_true rfl) dX9_laid_46 ?_
            refine j_istore (L' := [(6, .int r5), (5, .ref (G.1 + q2)), (0, .ref (G.1 + 0)), (1, .int x1), (2, .int x2), (3, .int x3), (4, .int x4)]) B dX9_laid_49 (by decide) rfl ?_
            refine j_iload B dX9_laid_51 0 rfl ?_
            refine j_if_ge (tgt := 59) B dX9_laid_53 (by decide) (fun c => ?_) (fun c => ?_)
            · replace h := h_pos c h
              refine j_aload_n B dX9_laid_59 rfl 2 rfl ?_
              refine j_aload B dX9_laid_60 1 rfl ?_
              refine j_aload_n B dX9_laid_62 rfl 2 rfl ?_
              refine gf_RX9_79 B rfl (wf_2 hW) (wf_149 hW) dX9_laid_63 ?_
              refine j_iload_n B dX9_laid_66 rfl 3 rfl ?_
              obtain ⟨b6, h⟩ := h_inb h
              refine j_aald B (wf_52 hW) (Or.inr (Or.inl rfl)) b6 (wf_shv hW b6) dX9_laid_67 ?_
              refine j_iload_n B dX9_laid_68 rfl 4 rfl ?_
              obtain ⟨r7, hr7, h⟩ := h_bind h
              refine j_cVI (rest := []) B (tX9_thinkBook hW (is_q2) (wf_shelf hW b6) hr7) cls9 (wf_2 hW) jt_RX9_188 wi_X9_thinkBook ws_X9_thinkBook rfl (by decide) (Nat.le_refl _) (Nat.le_refl _) rfl (Nat.le_of_ble_eq_true rfl) dX9_laid_69 ?_
              refine j_pop B dX9_laid_72 rfl ?_
              refine j_iload B dX9_laid_73 6 rfl ?_
              refine j_bipush B dX9_laid_75 (v := 10) (by decide) ?_
              refine j_idiv B dX9_laid_77 (by decide) ?_
              refine j_istore (L' := [(7, .int (x4 / 10)), (6, .int r5), (5, .ref (G.1 + q2)), (0, .ref (G.1 + 0)), (1, .int x1), (2, .int x2), (3, .int x3), (4, .int x4)]) B dX9_laid_78 (by decide) rfl ?_
              refine j_iload B dX9_laid_80 7 rfl ?_
              refine j_bipush B dX9_laid_82 (v := 10) (by decide) ?_
              refine j_irem B dX9_laid_84 (by decide) ?_
              refine j_iconst B dX9_laid_85 (v := 2) (by decide) ?_
              refine j_icmp_ne (tgt := 101) B dX9_laid_86 (by decide) (fun c => ?_) (fun c => ?_)
              · replace h := h_neg c h
                refine j_aload_n B dX9_laid_101 rfl 3 rfl ?_
                refine gf_RX9_39 B rfl (wf_2 hW) (wf_112 hW) dX9_laid_102 ?_
                refine j_iload B dX9_laid_105 0 rfl ?_
                refine j_iload B dX9_laid_107 7 rfl ?_
                refine j_bipush B dX9_laid_109 (v := 10) (by decide) ?_
                refine j_irem B dX9_laid_111 (by decide) ?_
                obtain ⟨r8, hr8, h⟩ := h_bind h
                refine j_cVI (rest := []) B (tX3_tells ((wf_dust13 hW)) hr8) cls3 (wf_15 hW) jt_RX9_151 wi_X3_tells ws_X3_tells rfl (by decide) (Nat.le_refl _) (Nat.le_refl _) rfl (Nat.le_of_ble_eq_true rfl) dX9_laid_112 ?_
                obtain ⟨e1, e2⟩ := Prod.mk.inj (Option.some.inj h)
                subst e1
                subst e2
                exact j_iret B E rfl dX9_laid_115 (Nat.le_refl _) (Nat.le_refl _) ⟨rfl, rfl, rfl, rfl⟩
              · replace h := h_pos c h
                refine j_aload_n B dX9_laid_89 rfl 3 rfl ?_
                refine gf_RX9_39 B rfl (wf_2 hW) (wf_112 hW) dX9_laid_90 ?_
                refine j_iload B dX9_laid_93 0 rfl ?_
                obtain ⟨r9, hr9, h⟩ := h_bind h
                refine j_cVI (rest := []) B (tX3_unlikeFromAbove ((wf_dust13 hW)) hr9) cls3 (wf_15 hW) jt_RX9_198 wi_X3_unlikeFromAbove ws_X3_unlikeFromAbove rfl (by decide) (Nat.le_refl _) (Nat.le_refl _) rfl (Nat.le_of_ble_eq_true rfl) dX9_laid_95 ?_
                refine j_goto (tgt := 115) B dX9_laid_98 (by decide) ?_
                obtain ⟨e1, e2⟩ := Prod.mk.inj (Option.some.inj h)
                subst e1
                subst e2
                exact j_iret B E rfl dX9_laid_115 (Nat.le_refl _) (Nat.le_refl _) ⟨rfl, rfl, rfl, rfl⟩
            · replace h := h_neg c h
              refine j_iload B dX9_laid_56 0 rfl ?_
              obtain ⟨e1, e2⟩ := Prod.mk.inj (Option.some.inj h)
              subst e1
              subst e2
              exact j_iret B E rfl dX9_laid_58 (Nat.le_refl _) (Nat.le_refl _) ⟨rfl, rfl, rfl, rfl⟩
          · replace h := h_neg c h
            refine j_iconst B dX9_laid_42 (v := (-1)) (by decide) ?_
            obtain ⟨e1, e2⟩ := Prod.mk.inj (Option.some.inj h)
            subst e1
            subst e2
            exact j_iret B E rfl dX9_laid_43 (Nat.le_refl _) (Nat.le_refl _) ⟨rfl, rfl, rfl, rfl⟩
def fX9_breath (ns : Nat) (x1 : Int32) (x2 : Int32) (x3 : Int32) (vi0 : VI) : Option (Int32 × VI) := (fX9_sillAt ns x1 vi0).bind fun r1 => optS r1 (some ((-1), vi0)) fun q2 => (fX9_isWithin x2 99).bind fun r3 => if r3 = true then (fX9_isWithin x3 1).bind fun r4 => if r4 = true then (fX3_become 13 (q2 + 1) vi0).bind fun r5 => (fX3_takeFromAbove 13 x2 r5).bind fun r6 => if x3 = 0 then (fX3_uppermost 13 r6.2).bind fun r7 => some (r7, r6.2) else some ((r6.2 13 2), r6.2) else some ((-1), vi0) else some ((-1), vi0)
theorem tX9_breath {G : GT} {sv : SV} {vi0 : VI} {vl0 : VL} {ns : Nat} {x1 : Int32} {x2 : Int32} {x3 : Int32} {r : Int32} {vi' : VI} (hW : WF sv ns) (h : fX9_breath ns x1 x2 x3 vi0 = some (r, vi')) : Call G mX9_breath 3 0 0 [.ref (G.1 + 0), .int x1, .int x2, .int x3] sv vi0 vl0 (QI r sv vi' vl0) := by
  refine j_mk (by decide +kernel) (Nat.le_of_ble_eq_true rfl) (fun Γ B E => ?_)
  show J G Γ 0 0 0 [(0, .ref (G.1 + 0)), (1, .int x1), (2, .int x2), (3, .int x3)] [] sv vi0 vl0
  unfold fX9_breath at h
  refine j_aload_n B dX9_breath_0 rfl 0 rfl ?_
  refine j_iload_n B dX9_breath_1 rfl 1 rfl ?_
  obtain ⟨r1, hr1, h⟩ := h_bind h
  refine j_cVN (rest := []) B (tX9_sillAt hW hr1) cls9 (wf_2 hW) jt_RX9_137 wi_X9_sillAt ws_X9_sillAt rfl (by decide) (Nat.le_refl _) (Nat.le_refl _) rfl (Nat.le_of_ble_eq_true rfl) dX9_breath_2 ?_
  rcases r1 with _ | q2
  · replace h := h_none h
    refine j_astoreN (L' := [(4, .null), (0, .ref (G.1 + 0)), (1, .int x1), (2, .int x2), (3, .int x3)]) B dX9_breath_5 (by decide) rfl ?_
    refine j_aloadN B dX9_breath_7 0 rfl ?_
    refine j_ifnullN (tgt := 29) B dX9_breath_9 (by decide) ?_
    refine j_iconst B dX9_breath_29 (v := (-1)) (by decide) ?_
    obtain ⟨e1, e2⟩ := Prod.mk.inj (Option.some.inj h)
    subst e1
    subst e2
    exact j_iret B E rfl dX9_breath_30 (Nat.le_refl _) (Nat.le_refl _) ⟨rfl, rfl, rfl, rfl⟩
  · replace h := h_some h
    have is_q2 := sillAt_is hW hr1
    refine j_astore (L' := [(4, .ref (G.1 + q2)), (0, .ref (G.1 + 0)), (1, .int x1), (2, .int x2), (3, .int x3)]) B dX9_breath_5 (by decide) rfl ?_
    refine j_aload B dX9_breath_7 0 rfl ?_
    refine j_ifnull B dX9_breath_9 ?_
    refine j_iload_n B dX9_breath_12 rfl 3 rfl ?_
    refine j_bipush B dX9_breath_13 (v := 99) (by decide) ?_
    obtain ⟨r3, hr3, h⟩ := h_bind h
    refine j_cSI (rest := []) B (tX9_isWithin hr3) jt_RX9_90 wst_X9_isWithin rfl (by decide) (Nat.le_refl _) (Nat.le_refl _) rfl (Nat.le_of_ble_eq_true rfl) dX9_breath_15 ?_
    refine j_if_eq (tgt := 29) B dX9_breath_18 (by decide) (fun c => ?_) (fun c => ?_)
    · replace h := h_neg (b2i_0 c) h
      refine j_iconst B dX9_breath_29 (v := (-1)) (by decide) ?_
      obtain ⟨e1, e2⟩ := Prod.mk.inj (Option.some.inj h)
      subst e1
      subst e2
      exact j_iret B E rfl dX9_breath_30 (Nat.le_refl _) (Nat.le_refl _) ⟨rfl, rfl, rfl, rfl⟩
    · replace h := h_pos (b2i_1 c) h
      refine j_iload_n B dX9_breath_21 rfl 4 rfl ?_
      refine j_iconst B dX9_breath_22 (v := 1) (by decide) ?_
      obtain ⟨r4, hr4, h⟩ := h_bind h
      refine j_cSI (rest := []) B (tX9_isWithin hr4) jt_RX9_90 wst_X9_isWithin rfl (by decide) (Nat.le_refl _) (Nat.le_refl _) rfl (Nat.le_of_ble_eq_true rfl) dX9_breath_23 ?_
      refine j_if_ne (tgt := 31) B dX9_breath_26 (by decide) (fun c => ?_) (fun c => ?_)
      · replace h := h_pos (b2i_1 c) h
        refine j_aload_n B dX9_breath_31 rfl 1 rfl ?_
        refine gf_RX9_39 B rfl (wf_2 hW) (wf_112 hW) dX9_breath_32 ?_
        refine j_aload B dX9_breath_35 0 rfl ?_
        refine gf_RX9_141 B rfl ((is_q2).1) (is_q2).2.2.1 dX9_breath_37 ?_
        obtain ⟨r5, hr5, h⟩ := h_bind h
        refine j_cVV (rest := []) B (tX3_become ((wf_dust13 hW)) ((is_q2).2.2.2.2.2) hr5) cls3 (wf_15 hW) jt_RX9_201 wi_X3_become ws_X3_become rfl (by decide) (Nat.le_refl _) (Nat.le_refl _) rfl (Nat.le_of_ble_eq_true rfl) dX9_breath_40 ?_
        refine j_aload_n B dX9_breath_43 rfl 1 rfl ?_
        refine gf_RX9_39 B rfl (wf_2 hW) (wf_112 hW) dX9_breath_44 ?_
        refine j_iload_n B dX9_breath_47 rfl 3 rfl ?_
        obtain ⟨r6, hr6, h⟩ := h_bind h
        refine j_cVI (rest := []) B (tX3_takeFromAbove ((wf_dust13 hW)) hr6) cls3 (wf_15 hW) jt_RX9_204 wi_X3_takeFromAbove ws_X3_takeFromAbove rfl (by decide) (Nat.le_refl _) (Nat.le_refl _) rfl (Nat.le_of_ble_eq_true rfl) dX9_breath_48 ?_
        refine j_pop B dX9_breath_51 rfl ?_
        refine j_iload_n B dX9_breath_52 rfl 4 rfl ?_
        refine j_if_ne (tgt := 66) B dX9_breath_53 (by decide) (fun c => ?_) (fun c => ?_)
        · replace h := h_neg c h
          refine j_aload_n B dX9_breath_66 rfl 1 rfl ?_
          refine gf_RX9_39 B rfl (wf_2 hW) (wf_112 hW) dX9_breath_67 ?_
          refine gf_RX9_144 B rfl (wf_15 hW) dX9_breath_70 ?_
          obtain ⟨e1, e2⟩ := Prod.mk.inj (Option.some.inj h)
          subst e1
          subst e2
          exact j_iret B E rfl dX9_breath_73 (Nat.le_refl _) (Nat.le_refl _) ⟨rfl, rfl, rfl, rfl⟩
        · replace h := h_pos c h
          refine j_aload_n B dX9_breath_56 rfl 1 rfl ?_
          refine gf_RX9_39 B rfl (wf_2 hW) (wf_112 hW) dX9_breath_57 ?_
          obtain ⟨r7, hr7, h⟩ := h_bind h
          refine j_cVI (rest := []) B (tX3_uppermost ((wf_dust13 hW)) hr7) cls3 (wf_15 hW) jt_RX9_207 wi_X3_uppermost ws_X3_uppermost rfl (by decide) (Nat.le_refl _) (Nat.le_refl _) rfl (Nat.le_of_ble_eq_true rfl) dX9_breath_60 ?_
          refine j_goto (tgt := 73) B dX9_breath_63 (by decide) ?_
          obtain ⟨e1, e2⟩ := Prod.mk.inj (Option.some.inj h)
          subst e1
          subst e2
          exact j_iret B E rfl dX9_breath_73 (Nat.le_refl _) (Nat.le_refl _) ⟨rfl, rfl, rfl, rfl⟩
      · replace h := h_neg (b2i_0 c) h
        refine j_iconst B dX9_breath_29 (v := (-1)) (by decide) ?_
        obtain ⟨e1, e2⟩ := Prod.mk.inj (Option.some.inj h)
        subst e1
        subst e2
        exact j_iret B E rfl dX9_breath_30 (Nat.le_refl _) (Nat.le_refl _) ⟨rfl, rfl, rfl, rfl⟩
def fX9_clear (ns : Nat) (x1 : Int32) (x2 : Int32) (vi0 : VI) : Option (Int32) := (fX9_sillAt ns x1 vi0).bind fun r1 => optS r1 (some ((-1))) fun q2 => (fX9_isOne x2).bind fun r3 => if r3 = true then (fX3_nextOf (q2 + 1) x2 0 vi0).bind fun r4 => (fX3_thickFrom (q2 + 1) r4 vi0).bind fun r5 => some (r5) else some ((-1))
theorem tX9_clear {G : GT} {sv : SV} {vi0 : VI} {vl0 : VL} {ns : Nat} {x1 : Int32} {x2 : Int32} {r : Int32} (hW : WF sv ns) (h : fX9_clear ns x1 x2 vi0 = some (r)) : Call G mX9_clear 3 0 0 [.ref (G.1 + 0), .int x1, .int x2] sv vi0 vl0 (QI r sv vi0 vl0) := by
  refine j_mk (by decide +kernel) (Nat.le_of_ble_eq_true rfl) (fun Γ B E => ?_)
  show J G Γ 0 0 0 [(0, .ref (G.1 + 0)), (1, .int x1), (2, .int x2)] [] sv vi0 vl0
  unfold fX9_clear at h
  refine j_aload_n B dX9_clear_0 rfl 0 rfl ?_
  refine j_iload_n B dX9_clear_1 rfl 1 rfl ?_
  obtain ⟨r1, hr1, h⟩ := h_bind h
  refine j_cVN (rest := []) B (tX9_sillAt hW hr1) cls9 (wf_2 hW) jt_RX9_137 wi_X9_sillAt ws_X9_sillAt rfl (by decide) (Nat.le_refl _) (Nat.le_refl _) rfl (Nat.le_of_ble_eq_true rfl) dX9_clear_2 ?_
  rcases r1 with _ | q2
  · replace h := h_none h
    refine j_astore_nN (L' := [(3, .null), (0, .ref (G.1 + 0)), (1, .int x1), (2, .int x2)]) B dX9_clear_5 rfl (by decide) rfl ?_
    refine j_aloadN_n B dX9_clear_6 rfl 0 rfl ?_
    refine j_ifnullN (tgt := 17) B dX9_clear_7 (by decide) ?_
    refine j_iconst B dX9_clear_17 (v := (-1)) (by decide) ?_
    have e1 := Option.some.inj h
    subst e1
    exact j_iret B E rfl dX9_clear_18 (Nat.le_refl _) (Nat.le_refl _) ⟨rfl, rfl, rfl, rfl⟩
  · replace h := h_some h
    have is_q2 := sillAt_is hW hr1
    refine j_astore_n (L' := [(3, .ref (G.1 + q2)), (0, .ref (G.1 + 0)), (1, .int x1), (2, .int x2)]) B dX9_clear_5 rfl (by decide) rfl ?_
    refine j_aload_n B dX9_clear_6 rfl 0 rfl ?_
    refine j_ifnull B dX9_clear_7 ?_
    refine j_iload_n B dX9_clear_10 rfl 3 rfl ?_
    obtain ⟨r3, hr3, h⟩ := h_bind h
    refine j_cSI (rest := []) B (tX9_isOne hr3) jt_RX9_210 wst_X9_isOne rfl (by decide) (Nat.le_refl _) (Nat.le_refl _) rfl (Nat.le_of_ble_eq_true rfl) dX9_clear_11 ?_
    refine j_if_ne (tgt := 19) B dX9_clear_14 (by decide) (fun c => ?_) (fun c => ?_)
    · replace h := h_pos (b2i_1 c) h
      refine j_aload_n B dX9_clear_19 rfl 0 rfl ?_
      refine gf_RX9_141 B rfl ((is_q2).1) (is_q2).2.2.1 dX9_clear_20 ?_
      refine j_aload_n B dX9_clear_23 rfl 0 rfl ?_
      refine gf_RX9_141 B rfl ((is_q2).1) (is_q2).2.2.1 dX9_clear_24 ?_
      refine j_iload_n B dX9_clear_27 rfl 3 rfl ?_
      refine j_iconst B dX9_clear_28 (v := 0) (by decide) ?_
      obtain ⟨r4, hr4, h⟩ := h_bind h
      refine j_cVI (rest := [.ref (G.1 + (q2 + 1))]) B (tX3_nextOf ((is_q2).2.2.2.2.2) hr4) cls3 (((is_q2).2.2.2.2.2).1) jt_RX9_213 wi_X3_nextOf ws_X3_nextOf rfl (by decide) (Nat.le_refl _) (Nat.le_refl _) rfl (Nat.le_of_ble_eq_true rfl) dX9_clear_29 ?_
      obtain ⟨r5, hr5, h⟩ := h_bind h
      refine j_cVI (rest := []) B (tX3_thickFrom ((is_q2).2.2.2.2.2) hr5) cls3 (((is_q2).2.2.2.2.2).1) jt_RX9_216 wi_X3_thickFrom ws_X3_thickFrom rfl (by decide) (Nat.le_refl _) (Nat.le_refl _) rfl (Nat.le_of_ble_eq_true rfl) dX9_clear_32 ?_
      have e1 := Option.some.inj h
      subst e1
      exact j_iret B E rfl dX9_clear_35 (Nat.le_refl _) (Nat.le_refl _) ⟨rfl, rfl, rfl, rfl⟩
    · replace h := h_neg (b2i_0 c) h
      refine j_iconst B dX9_clear_17 (v := (-1)) (by decide) ?_
      have e1 := Option.some.inj h
      subst e1
      exact j_iret B E rfl dX9_clear_18 (Nat.le_refl _) (Nat.le_refl _) ⟨rfl, rfl, rfl, rfl⟩
def fX9_touch_45 (ns : Nat) : Nat → Int32 → Int32 → Nat → Int32 → VI → Option (Int32 × VI)
  | 0, _, _, _, _, _ => none
  | F + 1, x2, x3, x4, x5, vi => if 60 < x5 then some ((-2), vi) else (fX3_ofWhomMost 13 vi).bind fun r6 => if r6 = x2 then some (x5, vi) else (fX7_layOn x4 13 x2 x3 vi).bind fun r7 => fX9_touch_45 ns F x2 x3 x4 (x5 + 1) r7.2
theorem tX9_touch_45 {G : GT} {sv : SV} {vl0 : VL} {ns : Nat} {Γ : CT} {r : Int32} {vi' : VI} (B : Base G Γ mX9_touch 5 0 0) (E : Ends G Γ 0 0 (QI r sv vi' vl0)) (hW : WF sv ns) : ∀ (F : Nat) (x2 : Int32) (x3 : Int32) (x4 : Nat) (x5 : Int32) (vi : VI) (h4 : isSill sv x4), fX9_touch_45 ns F x2 x3 x4 x5 vi = some (r, vi') → J G Γ 0 0 45 [(0, .ref (G.1 + 0)), (2, .int x2), (3, .int x3), (4, .ref (G.1 + x4)), (5, .int x5)] [] sv vi vl0 := by
  intro F
  induction F with
  | zero =>
    intro x2 x3 x4 x5 vi h4 h
    cases (show (none : Option (Int32 × VI)) = some (r, vi') from h)
  | succ F ih =>
    intro x2 x3 x4 x5 vi h4 h
    rw [fX9_touch_45] at h
    refine j_iload B dX9_touch_45 4 rfl ?_
    refine j_bipush B dX9_touch_47 (v := 60) (by decide) ?_
    refine j_icmp_gt (tgt := 84) B dX9_touch_49 (by decide) (fun c => ?_) (fun c => ?_)
    · replace h := h_pos c h
      refine j_bipush B dX9_touch_84 (v := (-2)) (by decide) ?_
      obtain ⟨e1, e2⟩ := Prod.mk.inj (Option.some.inj h)
      subst e1
      subst e2
      exact j_iret B E rfl dX9_touch_86 (Nat.le_refl _) (Nat.le_refl _) ⟨rfl, rfl, rfl, rfl⟩
    · replace h := h_neg c h
      refine j_aload_n B dX9_touch_52 rfl 0 rfl ?_
      refine gf_RX9_39 B rfl (wf_2 hW) (wf_112 hW) dX9_touch_53 ?_
      obtain ⟨r6, hr6, h⟩ := h_bind h
      refine j_cVI (rest := []) B (tX3_ofWhomMost ((wf_dust13 hW)) hr6) cls3 (wf_15 hW) jt_RX9_195 wi_X3_ofWhomMost ws_X3_ofWhomMost rfl (by decide) (Nat.le_refl _) (Nat.le_refl _) rfl (Nat.le_of_ble_eq_true rfl) dX9_touch_56 ?_
      refine j_iload_n B dX9_touch_59 rfl 1 rfl ?_
      refine j_icmp_ne (tgt := 66) B dX9_touch_60 (by decide) (fun c => ?_) (fun c => ?_)
      · replace h := h_neg c h
        refine j_aload B dX9_touch_66 3 rfl ?_
        refine j_aload_n B dX9_touch_68 rfl 0 rfl ?_
        refine gf_RX9_39 B rfl (wf_2 hW) (wf_112 hW) dX9_touch_69 ?_
        refine j_iload_n B dX9_touch_72 rfl 1 rfl ?_
        refine j_iload_n B dX9_touch_73 rfl 2 rfl ?_
        obtain ⟨r7, hr7, h⟩ := h_bind h
        refine j_cVI (rest := []) B (tX7_layOn hW (h4) ((wf_dust13 hW)) hr7) cls7 ((h4).1) jt_RX9_219 wi_X7_layOn ws_X7_layOn rfl (by decide) (Nat.le_refl _) (Nat.le_refl _) rfl (Nat.le_of_ble_eq_true rfl) dX9_touch_74 ?_
        refine j_pop B dX9_touch_77 rfl ?_
        refine j_iinc (v := (x5 + 1)) (L' := [(5, .int (x5 + 1)), (0, .ref (G.1 + 0)), (2, .int x2), (3, .int x3), (4, .ref (G.1 + x4))]) B dX9_touch_78 4 rfl rfl (by decide) rfl ?_
        refine j_goto (tgt := 45) B dX9_touch_81 (by decide) ?_
        refine j_locals [1, 2, 3, 4, 0] rfl ?_
        exact ih (x2) (x3) (x4) ((x5 + 1)) (r7.2) (h4) h
      · replace h := h_pos c h
        refine j_iload B dX9_touch_63 4 rfl ?_
        obtain ⟨e1, e2⟩ := Prod.mk.inj (Option.some.inj h)
        subst e1
        subst e2
        exact j_iret B E rfl dX9_touch_65 (Nat.le_refl _) (Nat.le_refl _) ⟨rfl, rfl, rfl, rfl⟩
def fX9_touch (ns : Nat) (x1 : Int32) (x2 : Int32) (x3 : Int32) (vi0 : VI) : Option (Int32 × VI) := (fX9_sillAt ns x1 vi0).bind fun r1 => optS r1 (some ((-1), vi0)) fun q2 => (fX9_isOne x2).bind fun r3 => if r3 = true then (fX9_isWithin x3 9).bind fun r4 => if r4 = true then (fX3_become 13 (q2 + 1) vi0).bind fun r5 => fX9_touch_45 ns FU x2 x3 q2 0 r5 else some ((-1), vi0) else some ((-1), vi0)
theorem tX9_touch {G : GT} {sv : SV} {vi0 : VI} {vl0 : VL} {ns : Nat} {x1 : Int32} {x2 : Int32} {x3 : Int32} {r : Int32} {vi' : VI} (hW : WF sv ns) (h : fX9_touch ns x1 x2 x3 vi0 = some (r, vi')) : Call G mX9_touch 5 0 0 [.ref (G.1 + 0), .int x1, .int x2, .int x3] sv vi0 vl0 (QI r sv vi' vl0) := by
  refine j_mk (by decide +kernel) (Nat.le_of_ble_eq_true rfl) (fun Γ B E => ?_)
  show J G Γ 0 0 0 [(0, .ref (G.1 + 0)), (1, .int x1), (2, .int x2), (3, .int x3)] [] sv vi0 vl0
  unfold fX9_touch at h
  refine j_aload_n B dX9_touch_0 rfl 0 rfl ?_
  refine j_iload_n B dX9_touch_1 rfl 1 rfl ?_
  obtain ⟨r1, hr1, h⟩ := h_bind h
  refine j_cVN (rest := []) B (tX9_sillAt hW hr1) cls9 (wf_2 hW) jt_RX9_137 wi_X9_sillAt ws_X9_sillAt rfl (by decide) (Nat.le_refl _) (Nat.le_refl _) rfl (Nat.le_of_ble_eq_true rfl) dX9_touch_2 ?_
  rcases r1 with _ | q2
  · replace h := h_none h
    refine j_astoreN (L' := [(4, .null), (0, .ref (G.1 + 0)), (1, .int x1), (2, .int x2), (3, .int x3)]) B dX9_touch_5 (by decide) rfl ?_
    refine j_aloadN B dX9_touch_7 0 rfl ?_
    refine j_ifnullN (tgt := 28) B dX9_touch_9 (by decide) ?_
    refine j_iconst B dX9_touch_28 (v := (-1)) (by decide) ?_
    obtain ⟨e1, e2⟩ := Prod.mk.inj (Option.some.inj h)
    subst e1
    subst e2
    exact j_iret B E rfl dX9_touch_29 (Nat.le_refl _) (Nat.le_refl _) ⟨rfl, rfl, rfl, rfl⟩
  · replace h := h_some h
    have is_q2 := sillAt_is hW hr1
    refine j_astore (L' := [(4, .ref (G.1 + q2)), (0, .ref (G.1 + 0)), (1, .int x1), (2, .int x2), (3, .int x3)]) B dX9_touch_5 (by decide) rfl ?_
    refine j_aload B dX9_touch_7 0 rfl ?_
    refine j_ifnull B dX9_touch_9 ?_
    refine j_iload_n B dX9_touch_12 rfl 3 rfl ?_
    obtain ⟨r3, hr3, h⟩ := h_bind h
    refine j_cSI (rest := []) B (tX9_isOne hr3) jt_RX9_210 wst_X9_isOne rfl (by decide) (Nat.le_refl _) (Nat.le_refl _) rfl (Nat.le_of_ble_eq_true rfl) dX9_touch_13 ?_
    refine j_if_eq (tgt := 28) B dX9_touch_16 (by decide) (fun c => ?_) (fun c => ?_)
    · replace h := h_neg (b2i_0 c) h
      refine j_iconst B dX9_touch_28 (v := (-1)) (by decide) ?_
      obtain ⟨e1, e2⟩ := Prod.mk.inj (Option.some.inj h)
      subst e1
      subst e2
      exact j_iret B E rfl dX9_touch_29 (Nat.le_refl _) (Nat.le_refl _) ⟨rfl, rfl, rfl, rfl⟩
    · replace h := h_pos (b2i_1 c) h
      refine j_iload_n B dX9_touch_19 rfl 4 rfl ?_
      refine j_bipush B dX9_touch_20 (v := 9) (by decide) ?_
      obtain ⟨r4, hr4, h⟩ := h_bind h
      refine j_cSI (rest := []) B (tX9_isWithin hr4) jt_RX9_90 wst_X9_isWithin rfl (by decide) (Nat.le_refl _) (Nat.le_refl _) rfl (Nat.le_of_ble_eq_true rfl) dX9_touch_22 ?_
      refine j_if_ne (tgt := 30) B dX9_touch_25 (by decide) (fun c => ?_) (fun c => ?_)
      · replace h := h_pos (b2i_1 c) h
        refine j_aload_n B dX9_touch_30 rfl 1 rfl ?_
        refine gf_RX9_39 B rfl (wf_2 hW) (wf_112 hW) dX9_touch_31 ?_
        refine j_aload B dX9_touch_34 0 rfl ?_
        refine gf_RX9_141 B rfl ((is_q2).1) (is_q2).2.2.1 dX9_touch_36 ?_
        obtain ⟨r5, hr5, h⟩ := h_bind h
        refine j_cVV (rest := []) B (tX3_become ((wf_dust13 hW)) ((is_q2).2.2.2.2.2) hr5) cls3 (wf_15 hW) jt_RX9_201 wi_X3_become ws_X3_become rfl (by decide) (Nat.le_refl _) (Nat.le_refl _) rfl (Nat.le_of_ble_eq_true rfl) dX9_touch_39 ?_
        refine j_iconst B dX9_touch_42 (v := 0) (by decide) ?_
        refine j_istore (L' := [(5, .int 0), (4, .ref (G.1 + q2)), (0, .ref (G.1 + 0)), (1, .int x1), (2, .int x2), (3, .int x3)]) B dX9_touch_43 (by decide) rfl ?_
        refine j_locals [2, 4, 5, 1, 0] rfl ?_
        exact tX9_touch_45 B E hW FU (x2) (x3) (q2) (0) (r5) (is_q2) h
      · replace h := h_neg (b2i_0 c) h
        refine j_iconst B dX9_touch_28 (v := (-1)) (by decide) ?_
        obtain ⟨e1, e2⟩ := Prod.mk.inj (Option.some.inj h)
        subst e1
        subst e2
        exact j_iret B E rfl dX9_touch_29 (Nat.le_refl _) (Nat.le_refl _) ⟨rfl, rfl, rfl, rfl⟩
def fX9_sillsThatRead_35 (ns : Nat) (vi0 : VI) (k4 : Int32 → Int32 → Int32 → Option (Int32)) (x1 : Int32) (x2 : Int32) (x3 : Int32) : Option (Int32) := k4 x1 x2 (x3 + 1)
theorem tX9_sillsThatRead_35 {G : GT} {sv : SV} {vi0 : VI} {vl0 : VL} {ns : Nat} {Γ : CT} {r : Int32} {k4 : Int32 → Int32 → Int32 → Option (Int32)} (B : Base G Γ mX9_sillsThatRead 1 0 0) (E : Ends G Γ 0 0 (QI r sv vi0 vl0)) (hW : WF sv ns) (hk4 : ∀ (x1 : Int32) (x2 : Int32) (x3 : Int32), k4 x1 x2 x3 = some (r) → J G Γ 0 0 4 [(0, .ref (G.1 + 0)), (1, .int x1), (2, .int x2), (3, .int x3)] [] sv vi0 vl0) : ∀ (x1 : Int32) (x2 : Int32) (x3 : Int32), fX9_sillsThatRead_35 ns vi0 k4 x1 x2 x3 = some (r) → J G Γ 0 0 35 [(0, .ref (G.1 + 0)), (1, .int x1), (2, .int x2), (3, .int x3)] [] sv vi0 vl0 := by
  intro x1 x2 x3  h
  unfold fX9_sillsThatRead_35 at h
  refine j_iinc (v := (x3 + 1)) (L' := [(3, .int (x3 + 1)), (0, .ref (G.1 + 0)), (1, .int x1), (2, .int x2)]) B dX9_sillsThatRead_35 3 rfl rfl (by decide) rfl ?_
  refine j_goto (tgt := 4) B dX9_sillsThatRead_38 (by decide) ?_
  refine j_locals [1, 2, 3, 0] rfl ?_
  exact hk4 (x1) (x2) ((x3 + 1))  h
def fX9_sillsThatRead_4 (ns : Nat) (vi0 : VI) : Nat → Int32 → Int32 → Int32 → Option (Int32)
  | 0, _, _, _ => none
  | F + 1, x1, x2, x3 => if (vi0 0 1) ≤ x3 then some (x2) else if inb x3 ns = true then (fX3_readBits ((98 + 5 * x3.toNatClampNeg) + 1) vi0).bind fun r2 => if (r2 &&& x1) = 0 then fX9_sillsThatRead_35 ns vi0 (fX9_sillsThatRead_4 ns vi0 F) x1 x2 x3 else fX9_sillsThatRead_35 ns vi0 (fX9_sillsThatRead_4 ns vi0 F) x1 (x2 ||| ((1 : Int32) <<< (x3 &&& 31))) x3 else none
theorem tX9_sillsThatRead_4 {G : GT} {sv : SV} {vi0 : VI} {vl0 : VL} {ns : Nat} {Γ : CT} {r : Int32} (B : Base G Γ mX9_sillsThatRead 1 0 0) (E : Ends G Γ 0 0 (QI r sv vi0 vl0)) (hW : WF sv ns) : ∀ (F : Nat) (x1 : Int32) (x2 : Int32) (x3 : Int32), fX9_sillsThatRead_4 ns vi0 F x1 x2 x3 = some (r) → J G Γ 0 0 4 [(0, .ref (G.1 + 0)), (1, .int x1), (2, .int x2), (3, .int x3)] [] sv vi0 vl0 := by
  intro F
  induction F with
  | zero =>
    intro x1 x2 x3  h
    cases (show (none : Option (Int32)) = some (r) from h)
  | succ F ih =>
    intro x1 x2 x3  h
    rw [fX9_sillsThatRead_4] at h
    refine j_iload_n B dX9_sillsThatRead_4 rfl 3 rfl ?_
    refine j_aload_n B dX9_sillsThatRead_5 rfl 0 rfl ?_
    refine gf_RX9_94 B rfl (wf_2 hW) dX9_sillsThatRead_6 ?_
    refine j_icmp_ge (tgt := 41) B dX9_sillsThatRead_9 (by decide) (fun c => ?_) (fun c => ?_)
    · replace h := h_pos c h
      refine j_iload_n B dX9_sillsThatRead_41 rfl 2 rfl ?_
      have e1 := Option.some.inj h
      subst e1
      exact j_iret B E rfl dX9_sillsThatRead_42 (Nat.le_refl _) (Nat.le_refl _) ⟨rfl, rfl, rfl, rfl⟩
    · replace h := h_neg c h
      refine j_aload_n B dX9_sillsThatRead_12 rfl 0 rfl ?_
      refine gf_RX9_11 B rfl (wf_2 hW) (wf_100 hW) dX9_sillsThatRead_13 ?_
      refine j_iload_n B dX9_sillsThatRead_16 rfl 3 rfl ?_
      obtain ⟨b1, h⟩ := h_inb h
      refine j_aald B (wf_3 hW) (Or.inr (Or.inr rfl)) (wf_in5 hW b1) (wf_house hW b1) dX9_sillsThatRead_17 ?_
      refine gf_RX9_141 B rfl ((wf_sill hW b1).1) (wf_sill hW b1).2.2.1 dX9_sillsThatRead_18 ?_
      obtain ⟨r2, hr2, h⟩ := h_bind h
      refine j_cVI (rest := []) B (tX3_readBits ((wf_sill hW b1).2.2.2.2.2) hr2) cls3 (((wf_sill hW b1).2.2.2.2.2).1) jt_RX9_192 wi_X3_readBits ws_X3_readBits rfl (by decide) (Nat.le_refl _) (Nat.le_refl _) rfl (Nat.le_of_ble_eq_true rfl) dX9_sillsThatRead_21 ?_
      refine j_iload_n B dX9_sillsThatRead_24 rfl 1 rfl ?_
      refine j_iand B dX9_sillsThatRead_25 ?_
      refine j_if_eq (tgt := 35) B dX9_sillsThatRead_26 (by decide) (fun c => ?_) (fun c => ?_)
      · replace h := h_pos c h
        refine j_locals [0, 1, 2, 3] rfl ?_
        exact tX9_sillsThatRead_35 B E hW ih (x1) (x2) (x3)  h
      · replace h := h_neg c h
        refine j_iload_n B dX9_sillsThatRead_29 rfl 2 rfl ?_
        refine j_iconst B dX9_sillsThatRead_30 (v := 1) (by decide) ?_
        refine j_iload_n B dX9_sillsThatRead_31 rfl 3 rfl ?_
        refine j_ishl B dX9_sillsThatRead_32 ?_
        refine j_ior B dX9_sillsThatRead_33 ?_
        refine j_istore_n (L' := [(2, .int (x2 ||| ((1 : Int32) <<< (x3 &&& 31)))), (0, .ref (G.1 + 0)), (1, .int x1), (3, .int x3)]) B dX9_sillsThatRead_34 rfl (by decide) rfl ?_
        refine j_locals [1, 2, 0, 3] rfl ?_
        exact tX9_sillsThatRead_35 B E hW ih (x1) ((x2 ||| ((1 : Int32) <<< (x3 &&& 31)))) (x3)  h
def fX9_sillsThatRead (ns : Nat) (x1 : Int32) (vi0 : VI) : Option (Int32) := fX9_sillsThatRead_4 ns vi0 FU x1 0 0
theorem tX9_sillsThatRead {G : GT} {sv : SV} {vi0 : VI} {vl0 : VL} {ns : Nat} {x1 : Int32} {r : Int32} (hW : WF sv ns) (h : fX9_sillsThatRead ns x1 vi0 = some (r)) : Call G mX9_sillsThatRead 1 0 0 [.ref (G.1 + 0), .int x1] sv vi0 vl0 (QI r sv vi0 vl0) := by
  refine j_mk (by decide +kernel) (Nat.le_of_ble_eq_true rfl) (fun Γ B E => ?_)
  show J G Γ 0 0 0 [(0, .ref (G.1 + 0)), (1, .int x1)] [] sv vi0 vl0
  unfold fX9_sillsThatRead at h
  refine j_iconst B dX9_sillsThatRead_0 (v := 0) (by decide) ?_
  refine j_istore_n (L' := [(2, .int 0), (0, .ref (G.1 + 0)), (1, .int x1)]) B dX9_sillsThatRead_1 rfl (by decide) rfl ?_
  refine j_iconst B dX9_sillsThatRead_2 (v := 0) (by decide) ?_
  refine j_istore_n (L' := [(3, .int 0), (2, .int 0), (0, .ref (G.1 + 0)), (1, .int x1)]) B dX9_sillsThatRead_3 rfl (by decide) rfl ?_
  refine j_locals [2, 3, 1, 0] rfl ?_
  exact tX9_sillsThatRead_4 B E hW FU (x1) (0) (0)  h
def fX9_tellsOf (ns : Nat) (x1 : Int32) (vi0 : VI) : Option (Int32) := (fX9_isOne x1).bind fun r1 => if r1 = true then (fX9_sillsThatRead ns ((1 : Int32) <<< (x1 &&& 31)) vi0).bind fun r2 => some (r2) else some ((-1))
theorem tX9_tellsOf {G : GT} {sv : SV} {vi0 : VI} {vl0 : VL} {ns : Nat} {x1 : Int32} {r : Int32} (hW : WF sv ns) (h : fX9_tellsOf ns x1 vi0 = some (r)) : Call G mX9_tellsOf 2 0 0 [.ref (G.1 + 0), .int x1] sv vi0 vl0 (QI r sv vi0 vl0) := by
  refine j_mk (by decide +kernel) (Nat.le_of_ble_eq_true rfl) (fun Γ B E => ?_)
  show J G Γ 0 0 0 [(0, .ref (G.1 + 0)), (1, .int x1)] [] sv vi0 vl0
  unfold fX9_tellsOf at h
  refine j_iload_n B dX9_tellsOf_0 rfl 1 rfl ?_
  obtain ⟨r1, hr1, h⟩ := h_bind h
  refine j_cSI (rest := []) B (tX9_isOne hr1) jt_RX9_210 wst_X9_isOne rfl (by decide) (Nat.le_refl _) (Nat.le_refl _) rfl (Nat.le_of_ble_eq_true rfl) dX9_tellsOf_1 ?_
  refine j_if_eq (tgt := 17) B dX9_tellsOf_4 (by decide) (fun c => ?_) (fun c => ?_)
  · replace h := h_neg (b2i_0 c) h
    refine j_iconst B dX9_tellsOf_17 (v := (-1)) (by decide) ?_
    have e1 := Option.some.inj h
    subst e1
    exact j_iret B E rfl dX9_tellsOf_18 (Nat.le_refl _) (Nat.le_refl _) ⟨rfl, rfl, rfl, rfl⟩
  · replace h := h_pos (b2i_1 c) h
    refine j_aload_n B dX9_tellsOf_7 rfl 0 rfl ?_
    refine j_iconst B dX9_tellsOf_8 (v := 1) (by decide) ?_
    refine j_iload_n B dX9_tellsOf_9 rfl 1 rfl ?_
    refine j_ishl B dX9_tellsOf_10 ?_
    obtain ⟨r2, hr2, h⟩ := h_bind h
    refine j_cVI (rest := []) B (tX9_sillsThatRead hW hr2) cls9 (wf_2 hW) jt_RX9_223 wi_X9_sillsThatRead ws_X9_sillsThatRead rfl (by decide) (Nat.le_refl _) (Nat.le_refl _) rfl (Nat.le_of_ble_eq_true rfl) dX9_tellsOf_11 ?_
    refine j_goto (tgt := 18) B dX9_tellsOf_14 (by decide) ?_
    have e1 := Option.some.inj h
    subst e1
    exact j_iret B E rfl dX9_tellsOf_18 (Nat.le_refl _) (Nat.le_refl _) ⟨rfl, rfl, rfl, rfl⟩
def fX9_readOf_35 (ns : Nat) (vi0 : VI) (k4 : Int32 → Int32 → Int32 → Option (Int32)) (x1 : Int32) (x2 : Int32) (x3 : Int32) : Option (Int32) := k4 x1 x2 (x3 + 1)
theorem tX9_readOf_35 {G : GT} {sv : SV} {vi0 : VI} {vl0 : VL} {ns : Nat} {Γ : CT} {r : Int32} {k4 : Int32 → Int32 → Int32 → Option (Int32)} (B : Base G Γ mX9_readOf 1 0 0) (E : Ends G Γ 0 0 (QI r sv vi0 vl0)) (hW : WF sv ns) (hk4 : ∀ (x1 : Int32) (x2 : Int32) (x3 : Int32), k4 x1 x2 x3 = some (r) → J G Γ 0 0 4 [(0, .ref (G.1 + 0)), (1, .int x1), (2, .int x2), (3, .int x3)] [] sv vi0 vl0) : ∀ (x1 : Int32) (x2 : Int32) (x3 : Int32), fX9_readOf_35 ns vi0 k4 x1 x2 x3 = some (r) → J G Γ 0 0 35 [(0, .ref (G.1 + 0)), (1, .int x1), (2, .int x2), (3, .int x3)] [] sv vi0 vl0 := by
  intro x1 x2 x3  h
  unfold fX9_readOf_35 at h
  refine j_iinc (v := (x3 + 1)) (L' := [(3, .int (x3 + 1)), (0, .ref (G.1 + 0)), (1, .int x1), (2, .int x2)]) B dX9_readOf_35 3 rfl rfl (by decide) rfl ?_
  refine j_goto (tgt := 4) B dX9_readOf_38 (by decide) ?_
  refine j_locals [1, 2, 3, 0] rfl ?_
  exact hk4 (x1) (x2) ((x3 + 1))  h
def fX9_readOf_4 (ns : Nat) (vi0 : VI) : Nat → Int32 → Int32 → Int32 → Option (Int32)
  | 0, _, _, _ => none
  | F + 1, x1, x2, x3 => if (vi0 0 1) ≤ x3 then some (x2) else if ((x1 >>> (x3 &&& 31)) &&& 1) = 0 then fX9_readOf_35 ns vi0 (fX9_readOf_4 ns vi0 F) x1 x2 x3 else if inb x3 ns = true then (fX3_readBits ((98 + 5 * x3.toNatClampNeg) + 1) vi0).bind fun r2 => fX9_readOf_35 ns vi0 (fX9_readOf_4 ns vi0 F) x1 (x2 ||| r2) x3 else none
theorem tX9_readOf_4 {G : GT} {sv : SV} {vi0 : VI} {vl0 : VL} {ns : Nat} {Γ : CT} {r : Int32} (B : Base G Γ mX9_readOf 1 0 0) (E : Ends G Γ 0 0 (QI r sv vi0 vl0)) (hW : WF sv ns) : ∀ (F : Nat) (x1 : Int32) (x2 : Int32) (x3 : Int32), fX9_readOf_4 ns vi0 F x1 x2 x3 = some (r) → J G Γ 0 0 4 [(0, .ref (G.1 + 0)), (1, .int x1), (2, .int x2), (3, .int x3)] [] sv vi0 vl0 := by
  intro F
  induction F with
  | zero =>
    intro x1 x2 x3  h
    cases (show (none : Option (Int32)) = some (r) from h)
  | succ F ih =>
    intro x1 x2 x3  h
    rw [fX9_readOf_4] at h
    refine j_iload_n B dX9_readOf_4 rfl 3 rfl ?_
    refine j_aload_n B dX9_readOf_5 rfl 0 rfl ?_
    refine gf_RX9_94 B rfl (wf_2 hW) dX9_readOf_6 ?_
    refine j_icmp_ge (tgt := 41) B dX9_readOf_9 (by decide) (fun c => ?_) (fun c => ?_)
    · replace h := h_pos c h
      refine j_iload_n B dX9_readOf_41 rfl 2 rfl ?_
      have e1 := Option.some.inj h
      subst e1
      exact j_iret B E rfl dX9_readOf_42 (Nat.le_refl _) (Nat.le_refl _) ⟨rfl, rfl, rfl, rfl⟩
    · replace h := h_neg c h
      refine j_iload_n B dX9_readOf_12 rfl 1 rfl ?_
      refine j_iload_n B dX9_readOf_13 rfl 3 rfl ?_
      refine j_ishr B dX9_readOf_14 ?_
      refine j_iconst B dX9_readOf_15 (v := 1) (by decide) ?_
      refine j_iand B dX9_readOf_16 ?_
      refine j_if_eq (tgt := 35) B dX9_readOf_17 (by decide) (fun c => ?_) (fun c => ?_)
      · replace h := h_pos c h
        refine j_locals [0, 1, 2, 3] rfl ?_
        exact tX9_readOf_35 B E hW ih (x1) (x2) (x3)  h
      · replace h := h_neg c h
        refine j_iload_n B dX9_readOf_20 rfl 2 rfl ?_
        refine j_aload_n B dX9_readOf_21 rfl 0 rfl ?_
        refine gf_RX9_11 B rfl (wf_2 hW) (wf_100 hW) dX9_readOf_22 ?_
        refine j_iload_n B dX9_readOf_25 rfl 3 rfl ?_
        obtain ⟨b1, h⟩ := h_inb h
        refine j_aald B (wf_3 hW) (Or.inr (Or.inr rfl)) (wf_in5 hW b1) (wf_house hW b1) dX9_readOf_26 ?_
        refine gf_RX9_141 B rfl ((wf_sill hW b1).1) (wf_sill hW b1).2.2.1 dX9_readOf_27 ?_
        obtain ⟨r2, hr2, h⟩ := h_bind h
        refine j_cVI (rest := [.int x2]) B (tX3_readBits ((wf_sill hW b1).2.2.2.2.2) hr2) cls3 (((wf_sill hW b1).2.2.2.2.2).1) jt_RX9_192 wi_X3_readBits ws_X3_readBits rfl (by decide) (Nat.le_refl _) (Nat.le_refl _) rfl (Nat.le_of_ble_eq_true rfl) dX9_readOf_30 ?_
        refine j_ior B dX9_readOf_33 ?_
        refine j_istore_n (L' := [(2, .int (x2 ||| r2)), (0, .ref (G.1 + 0)), (1, .int x1), (3, .int x3)]) B dX9_readOf_34 rfl (by decide) rfl ?_
        refine j_locals [1, 2, 0, 3] rfl ?_
        exact tX9_readOf_35 B E hW ih (x1) ((x2 ||| r2)) (x3)  h
def fX9_readOf (ns : Nat) (x1 : Int32) (vi0 : VI) : Option (Int32) := fX9_readOf_4 ns vi0 FU x1 0 0
theorem tX9_readOf {G : GT} {sv : SV} {vi0 : VI} {vl0 : VL} {ns : Nat} {x1 : Int32} {r : Int32} (hW : WF sv ns) (h : fX9_readOf ns x1 vi0 = some (r)) : Call G mX9_readOf 1 0 0 [.ref (G.1 + 0), .int x1] sv vi0 vl0 (QI r sv vi0 vl0) := by
  refine j_mk (by decide +kernel) (Nat.le_of_ble_eq_true rfl) (fun Γ B E => ?_)
  show J G Γ 0 0 0 [(0, .ref (G.1 + 0)), (1, .int x1)] [] sv vi0 vl0
  unfold fX9_readOf at h
  refine j_iconst B dX9_readOf_0 (v := 0) (by decide) ?_
  refine j_istore_n (L' := [(2, .int 0), (0, .ref (G.1 + 0)), (1, .int x1)]) B dX9_readOf_1 rfl (by decide) rfl ?_
  refine j_iconst B dX9_readOf_2 (v := 0) (by decide) ?_
  refine j_istore_n (L' := [(3, .int 0), (2, .int 0), (0, .ref (G.1 + 0)), (1, .int x1)]) B dX9_readOf_3 rfl (by decide) rfl ?_
  refine j_locals [2, 3, 1, 0] rfl ?_
  exact tX9_readOf_4 B E hW FU (x1) (0) (0)  h
def fX9_fewestThatTell_56 (ns : Nat) (vi0 : VI) (k5 : Int32 → Int32 → Int32 → Option (Int32)) (x1 : Int32) (x2 : Int32) (x3 : Int32) : Option (Int32) := k5 x1 x2 (x3 + 1)
theorem tX9_fewestThatTell_56 {G : GT} {sv : SV} {vi0 : VI} {vl0 : VL} {ns : Nat} {Γ : CT} {r : Int32} {k5 : Int32 → Int32 → Int32 → Option (Int32)} (B : Base G Γ mX9_fewestThatTell 2 0 0) (E : Ends G Γ 0 0 (QI r sv vi0 vl0)) (hW : WF sv ns) (hk5 : ∀ (x1 : Int32) (x2 : Int32) (x3 : Int32), k5 x1 x2 x3 = some (r) → J G Γ 0 0 5 [(0, .ref (G.1 + 0)), (1, .int x1), (2, .int x2), (3, .int x3)] [] sv vi0 vl0) : ∀ (x1 : Int32) (x2 : Int32) (x3 : Int32), fX9_fewestThatTell_56 ns vi0 k5 x1 x2 x3 = some (r) → J G Γ 0 0 56 [(0, .ref (G.1 + 0)), (1, .int x1), (2, .int x2), (3, .int x3)] [] sv vi0 vl0 := by
  intro x1 x2 x3  h
  unfold fX9_fewestThatTell_56 at h
  refine j_iinc (v := (x3 + 1)) (L' := [(3, .int (x3 + 1)), (0, .ref (G.1 + 0)), (1, .int x1), (2, .int x2)]) B dX9_fewestThatTell_56 3 rfl rfl (by decide) rfl ?_
  refine j_goto (tgt := 5) B dX9_fewestThatTell_59 (by decide) ?_
  refine j_locals [1, 2, 3, 0] rfl ?_
  exact hk5 (x1) (x2) ((x3 + 1))  h
def fX9_fewestThatTell_35 (ns : Nat) (vi0 : VI) (k5 : Int32 → Int32 → Int32 → Option (Int32)) (x1 : Int32) (x2 : Int32) (x3 : Int32) (s0 : Int32) : Option (Int32) := if s0 = 0 then fX9_fewestThatTell_56 ns vi0 k5 x1 x2 x3 else (fX9_readOf ns x3 vi0).bind fun r1 => if (x1 &&& (r1 ^^^ (-1))) = 0 then fX9_fewestThatTell_56 ns vi0 k5 x1 x3 x3 else fX9_fewestThatTell_56 ns vi0 k5 x1 x2 x3
theorem tX9_fewestThatTell_35 {G : GT} {sv : SV} {vi0 : VI} {vl0 : VL} {ns : Nat} {Γ : CT} {r : Int32} {k5 : Int32 → Int32 → Int32 → Option (Int32)} (B : Base G Γ mX9_fewestThatTell 2 0 0) (E : Ends G Γ 0 0 (QI r sv vi0 vl0)) (hW : WF sv ns) (hk5 : ∀ (x1 : Int32) (x2 : Int32) (x3 : Int32), k5 x1 x2 x3 = some (r) → J G Γ 0 0 5 [(0, .ref (G.1 + 0)), (1, .int x1), (2, .int x2), (3, .int x3)] [] sv vi0 vl0) : ∀ (x1 : Int32) (x2 : Int32) (x3 : Int32) (s0 : Int32), fX9_fewestThatTell_35 ns vi0 k5 x1 x2 x3 s0 = some (r) → J G Γ 0 0 35 [(0, .ref (G.1 + 0)), (1, .int x1), (2, .int x2), (3, .int x3)] [.int s0] sv vi0 vl0 := by
  intro x1 x2 x3 s0  h
  unfold fX9_fewestThatTell_35 at h
  refine j_istore (L' := [(4, .int s0), (0, .ref (G.1 + 0)), (1, .int x1), (2, .int x2), (3, .int x3)]) B dX9_fewestThatTell_35 (by decide) rfl ?_
  refine j_iload B dX9_fewestThatTell_37 0 rfl ?_
  refine j_if_eq (tgt := 56) B dX9_fewestThatTell_39 (by decide) (fun c => ?_) (fun c => ?_)
  · replace h := h_pos c h
    refine j_locals [1, 2, 3, 4] rfl ?_
    exact tX9_fewestThatTell_56 B E hW hk5 (x1) (x2) (x3)  h
  · replace h := h_neg c h
    refine j_iload_n B dX9_fewestThatTell_42 rfl 2 rfl ?_
    refine j_aload_n B dX9_fewestThatTell_43 rfl 1 rfl ?_
    refine j_iload_n B dX9_fewestThatTell_44 rfl 4 rfl ?_
    obtain ⟨r1, hr1, h⟩ := h_bind h
    refine j_cVI (rest := [.int x1]) B (tX9_readOf hW hr1) cls9 (wf_2 hW) jt_RX9_370 wi_X9_readOf ws_X9_readOf rfl (by decide) (Nat.le_refl _) (Nat.le_refl _) rfl (Nat.le_of_ble_eq_true rfl) dX9_fewestThatTell_45 ?_
    refine j_iconst B dX9_fewestThatTell_48 (v := (-1)) (by decide) ?_
    refine j_ixor B dX9_fewestThatTell_49 ?_
    refine j_iand B dX9_fewestThatTell_50 ?_
    refine j_if_ne (tgt := 56) B dX9_fewestThatTell_51 (by decide) (fun c => ?_) (fun c => ?_)
    · replace h := h_neg c h
      refine j_locals [1, 2, 3, 4] rfl ?_
      exact tX9_fewestThatTell_56 B E hW hk5 (x1) (x2) (x3)  h
    · replace h := h_pos c h
      refine j_iload_n B dX9_fewestThatTell_54 rfl 4 rfl ?_
      refine j_istore_n (L' := [(2, .int x3), (4, .int s0), (0, .ref (G.1 + 0)), (1, .int x1), (3, .int x3)]) B dX9_fewestThatTell_55 rfl (by decide) rfl ?_
      refine j_locals [2, 3, 0, 4] rfl ?_
      exact tX9_fewestThatTell_56 B E hW hk5 (x1) (x3) (x3)  h
def fX9_fewestThatTell_30 (ns : Nat) (vi0 : VI) (k5 : Int32 → Int32 → Int32 → Option (Int32)) (x1 : Int32) (x2 : Int32) (x3 : Int32) : Option (Int32) := fX9_fewestThatTell_35 ns vi0 k5 x1 x2 x3 1
theorem tX9_fewestThatTell_30 {G : GT} {sv : SV} {vi0 : VI} {vl0 : VL} {ns : Nat} {Γ : CT} {r : Int32} {k5 : Int32 → Int32 → Int32 → Option (Int32)} (B : Base G Γ mX9_fewestThatTell 2 0 0) (E : Ends G Γ 0 0 (QI r sv vi0 vl0)) (hW : WF sv ns) (hk5 : ∀ (x1 : Int32) (x2 : Int32) (x3 : Int32), k5 x1 x2 x3 = some (r) → J G Γ 0 0 5 [(0, .ref (G.1 + 0)), (1, .int x1), (2, .int x2), (3, .int x3)] [] sv vi0 vl0) : ∀ (x1 : Int32) (x2 : Int32) (x3 : Int32), fX9_fewestThatTell_30 ns vi0 k5 x1 x2 x3 = some (r) → J G Γ 0 0 30 [(0, .ref (G.1 + 0)), (1, .int x1), (2, .int x2), (3, .int x3)] [] sv vi0 vl0 := by
  intro x1 x2 x3  h
  unfold fX9_fewestThatTell_30 at h
  refine j_iconst B dX9_fewestThatTell_30 (v := 1) (by decide) ?_
  refine j_goto (tgt := 35) B dX9_fewestThatTell_31 (by decide) ?_
  refine j_locals [0, 1, 2, 3] rfl ?_
  exact tX9_fewestThatTell_35 B E hW hk5 (x1) (x2) (x3) (1)  h
def fX9_fewestThatTell_5 (ns : Nat) (vi0 : VI) : Nat → Int32 → Int32 → Int32 → Option (Int32)
  | 0, _, _, _ => none
  | F + 1, x1, x2, x3 => if ((1 : Int32) <<< ((vi0 0 1) &&& 31)) ≤ x3 then some (x2) else if x2 < 0 then fX9_fewestThatTell_30 ns vi0 (fX9_fewestThatTell_5 ns vi0 F) x1 x2 x3 else (fJ6_bitCount_0f7a4 x3).bind fun r2 => (fJ6_bitCount_0f7a4 x2).bind fun r3 => if r3 ≤ r2 then fX9_fewestThatTell_35 ns vi0 (fX9_fewestThatTell_5 ns vi0 F) x1 x2 x3 0 else fX9_fewestThatTell_30 ns vi0 (fX9_fewestThatTell_5 ns vi0 F) x1 x2 x3
theorem tX9_fewestThatTell_5 {G : GT} {sv : SV} {vi0 : VI} {vl0 : VL} {ns : Nat} {Γ : CT} {r : Int32} (B : Base G Γ mX9_fewestThatTell 2 0 0) (E : Ends G Γ 0 0 (QI r sv vi0 vl0)) (hW : WF sv ns) : ∀ (F : Nat) (x1 : Int32) (x2 : Int32) (x3 : Int32), fX9_fewestThatTell_5 ns vi0 F x1 x2 x3 = some (r) → J G Γ 0 0 5 [(0, .ref (G.1 + 0)), (1, .int x1), (2, .int x2), (3, .int x3)] [] sv vi0 vl0 := by
  intro F
  induction F with
  | zero =>
    intro x1 x2 x3  h
    cases (show (none : Option (Int32)) = some (r) from h)
  | succ F ih =>
    intro x1 x2 x3  h
    rw [fX9_fewestThatTell_5] at h
    refine j_iload_n B dX9_fewestThatTell_5 rfl 3 rfl ?_
    refine j_iconst B dX9_fewestThatTell_6 (v := 1) (by decide) ?_
    refine j_aload_n B dX9_fewestThatTell_7 rfl 0 rfl ?_
    refine gf_RX9_94 B rfl (wf_2 hW) dX9_fewestThatTell_8 ?_
    refine j_ishl B dX9_fewestThatTell_11 ?_
    refine j_icmp_ge (tgt := 62) B dX9_fewestThatTell_12 (by decide) (fun c => ?_) (fun c => ?_)
    · replace h := h_pos c h
      refine j_iload_n B dX9_fewestThatTell_62 rfl 2 rfl ?_
      have e1 := Option.some.inj h
      subst e1
      exact j_iret B E rfl dX9_fewestThatTell_63 (Nat.le_refl _) (Nat.le_refl _) ⟨rfl, rfl, rfl, rfl⟩
    · replace h := h_neg c h
      refine j_iload_n B dX9_fewestThatTell_15 rfl 2 rfl ?_
      refine j_if_lt (tgt := 30) B dX9_fewestThatTell_16 (by decide) (fun c => ?_) (fun c => ?_)
      · replace h := h_pos c h
        refine j_locals [0, 1, 2, 3] rfl ?_
        exact tX9_fewestThatTell_30 B E hW ih (x1) (x2) (x3)  h
      · replace h := h_neg c h
        refine j_iload_n B dX9_fewestThatTell_19 rfl 3 rfl ?_
        obtain ⟨r2, hr2, h⟩ := h_bind h
        refine j_cSI (rest := []) B (tJ6_bitCount_0f7a4 hr2) jt_RX9_229 wst_J6_bitCount_0f7a4 rfl (by decide) (Nat.le_refl _) (Nat.le_refl _) rfl (Nat.le_of_ble_eq_true rfl) dX9_fewestThatTell_20 ?_
        refine j_iload_n B dX9_fewestThatTell_23 rfl 2 rfl ?_
        obtain ⟨r3, hr3, h⟩ := h_bind h
        refine j_cSI (rest := [.int r2]) B (tJ6_bitCount_0f7a4 hr3) jt_RX9_229 wst_J6_bitCount_0f7a4 rfl (by decide) (Nat.le_refl _) (Nat.le_refl _) rfl (Nat.le_of_ble_eq_true rfl) dX9_fewestThatTell_24 ?_
        refine j_icmp_ge (tgt := 34) B dX9_fewestThatTell_27 (by decide) (fun c => ?_) (fun c => ?_)
        · replace h := h_pos c h
          refine j_iconst B dX9_fewestThatTell_34 (v := 0) (by decide) ?_
          refine j_locals [0, 1, 2, 3] rfl ?_
          exact tX9_fewestThatTell_35 B E hW ih (x1) (x2) (x3) (0)  h
        · replace h := h_neg c h
          refine j_locals [0, 1, 2, 3] rfl ?_
          exact tX9_fewestThatTell_30 B E hW ih (x1) (x2) (x3)  h
def fX9_fewestThatTell (ns : Nat) (x1 : Int32) (vi0 : VI) : Option (Int32) := fX9_fewestThatTell_5 ns vi0 FU x1 (-2) 0
theorem tX9_fewestThatTell {G : GT} {sv : SV} {vi0 : VI} {vl0 : VL} {ns : Nat} {x1 : Int32} {r : Int32} (hW : WF sv ns) (h : fX9_fewestThatTell ns x1 vi0 = some (r)) : Call G mX9_fewestThatTell 2 0 0 [.ref (G.1 + 0), .int x1] sv vi0 vl0 (QI r sv vi0 vl0) := by
  refine j_mk (by decide +kernel) (Nat.le_of_ble_eq_true rfl) (fun Γ B E => ?_)
  show J G Γ 0 0 0 [(0, .ref (G.1 + 0)), (1, .int x1)] [] sv vi0 vl0
  unfold fX9_fewestThatTell at h
  refine j_bipush B dX9_fewestThatTell_0 (v := (-2)) (by decide) ?_
  refine j_istore_n (L' := [(2, .int (-2)), (0, .ref (G.1 + 0)), (1, .int x1)]) B dX9_fewestThatTell_2 rfl (by decide) rfl ?_
  refine j_iconst B dX9_fewestThatTell_3 (v := 0) (by decide) ?_
  refine j_istore_n (L' := [(3, .int 0), (2, .int (-2)), (0, .ref (G.1 + 0)), (1, .int x1)]) B dX9_fewestThatTell_4 rfl (by decide) rfl ?_
  refine j_locals [2, 3, 1, 0] rfl ?_
  exact tX9_fewestThatTell_5 B E hW FU (x1) ((-2)) (0)  h
def fX9_fewest (ns : Nat) (x1 : Int32) (x2 : Int32) (vi0 : VI) : Option (Int32) := (fX9_isWithin x1 63).bind fun r1 => if r1 = true then (fX9_isWithin x2 2).bind fun r2 => if r2 = true then if x2 = 2 then (fX9_sillsThatRead ns x1 vi0).bind fun r5 => some (r5) else (fX9_fewestThatTell ns x1 vi0).bind fun r3 => if x2 = 0 then if r3 < 0 then some (r3) else (fJ6_bitCount_0f7a4 r3).bind fun r4 => some (r4) else some (r3) else some ((-1)) else some ((-1))
theorem tX9_fewest {G : GT} {sv : SV} {vi0 : VI} {vl0 : VL} {ns : Nat} {x1 : Int32} {x2 : Int32} {r : Int32} (hW : WF sv ns) (h : fX9_fewest ns x1 x2 vi0 = some (r)) : Call G mX9_fewest 3 0 0 [.ref (G.1 + 0), .int x1, .int x2] sv vi0 vl0 (QI r sv vi0 vl0) := by
  refine j_mk (by decide +kernel) (Nat.le_of_ble_eq_true rfl) (fun Γ B E => ?_)
  show J G Γ 0 0 0 [(0, .ref (G.1 + 0)), (1, .int x1), (2, .int x2)] [] sv vi0 vl0
  unfold fX9_fewest at h
  refine j_iload_n B dX9_fewest_0 rfl 1 rfl ?_
  refine j_bipush B dX9_fewest_1 (v := 63) (by decide) ?_
  obtain ⟨r1, hr1, h⟩ := h_bind h
  refine j_cSI (rest := []) B (tX9_isWithin hr1) jt_RX9_90 wst_X9_isWithin rfl (by decide) (Nat.le_refl _) (Nat.le_refl _) rfl (Nat.le_of_ble_eq_true rfl) dX9_fewest_3 ?_
  refine j_if_eq (tgt := 17) B dX9_fewest_6 (by decide) (fun c => ?_) (fun c => ?_)
  · replace h := h_neg (b2i_0 c) h
    refine j_iconst B dX9_fewest_17 (v := (-1)) (by decide) ?_
    have e1 := Option.some.inj h
    subst e1
    exact j_iret B E rfl dX9_fewest_18 (Nat.le_refl _) (Nat.le_refl _) ⟨rfl, rfl, rfl, rfl⟩
  · replace h := h_pos (b2i_1 c) h
    refine j_iload_n B dX9_fewest_9 rfl 2 rfl ?_
    refine j_iconst B dX9_fewest_10 (v := 2) (by decide) ?_
    obtain ⟨r2, hr2, h⟩ := h_bind h
    refine j_cSI (rest := []) B (tX9_isWithin hr2) jt_RX9_90 wst_X9_isWithin rfl (by decide) (Nat.le_refl _) (Nat.le_refl _) rfl (Nat.le_of_ble_eq_true rfl) dX9_fewest_11 ?_
    refine j_if_ne (tgt := 19) B dX9_fewest_14 (by decide) (fun c => ?_) (fun c => ?_)
    · replace h := h_pos (b2i_1 c) h
      refine j_iload_n B dX9_fewest_19 rfl 2 rfl ?_
      refine j_iconst B dX9_fewest_20 (v := 2) (by decide) ?_
      refine j_icmp_ne (tgt := 30) B dX9_fewest_21 (by decide) (fun c => ?_) (fun c => ?_)
      · replace h := h_neg c h
        refine j_aload_n B dX9_fewest_30 rfl 0 rfl ?_
        refine j_iload_n B dX9_fewest_31 rfl 1 rfl ?_
        obtain ⟨r3, hr3, h⟩ := h_bind h
        refine j_cVI (rest := []) B (tX9_fewestThatTell hW hr3) cls9 (wf_2 hW) jt_RX9_226 wi_X9_fewestThatTell ws_X9_fewestThatTell rfl (by decide) (Nat.le_refl _) (Nat.le_refl _) rfl (Nat.le_of_ble_eq_true rfl) dX9_fewest_32 ?_
        refine j_istore_n (L' := [(3, .int r3), (0, .ref (G.1 + 0)), (1, .int x1), (2, .int x2)]) B dX9_fewest_35 rfl (by decide) rfl ?_
        refine j_iload_n B dX9_fewest_36 rfl 3 rfl ?_
        refine j_if_ne (tgt := 51) B dX9_fewest_37 (by decide) (fun c => ?_) (fun c => ?_)
        · replace h := h_neg c h
          refine j_iload_n B dX9_fewest_51 rfl 0 rfl ?_
          have e1 := Option.some.inj h
          subst e1
          exact j_iret B E rfl dX9_fewest_52 (Nat.le_refl _) (Nat.le_refl _) ⟨rfl, rfl, rfl, rfl⟩
        · replace h := h_pos c h
          refine j_iload_n B dX9_fewest_40 rfl 0 rfl ?_
          refine j_if_lt (tgt := 51) B dX9_fewest_41 (by decide) (fun c => ?_) (fun c => ?_)
          · replace h := h_pos c h
            refine j_iload_n B dX9_fewest_51 rfl 0 rfl ?_
            have e1 := Option.some.inj h
            subst e1
            exact j_iret B E rfl dX9_fewest_52 (Nat.le_refl _) (Nat.le_refl _) ⟨rfl, rfl, rfl, rfl⟩
          · replace h := h_neg c h
            refine j_iload_n B dX9_fewest_44 rfl 0 rfl ?_
            obtain ⟨r4, hr4, h⟩ := h_bind h
            refine j_cSI (rest := []) B (tJ6_bitCount_0f7a4 hr4) jt_RX9_229 wst_J6_bitCount_0f7a4 rfl (by decide) (Nat.le_refl _) (Nat.le_refl _) rfl (Nat.le_of_ble_eq_true rfl) dX9_fewest_45 ?_
            refine j_goto (tgt := 52) B dX9_fewest_48 (by decide) ?_
            have e1 := Option.some.inj h
            subst e1
            exact j_iret B E rfl dX9_fewest_52 (Nat.le_refl _) (Nat.le_refl _) ⟨rfl, rfl, rfl, rfl⟩
      · replace h := h_pos c h
        refine j_aload_n B dX9_fewest_24 rfl 0 rfl ?_
        refine j_iload_n B dX9_fewest_25 rfl 1 rfl ?_
        obtain ⟨r5, hr5, h⟩ := h_bind h
        refine j_cVI (rest := []) B (tX9_sillsThatRead hW hr5) cls9 (wf_2 hW) jt_RX9_223 wi_X9_sillsThatRead ws_X9_sillsThatRead rfl (by decide) (Nat.le_refl _) (Nat.le_refl _) rfl (Nat.le_of_ble_eq_true rfl) dX9_fewest_26 ?_
        have e1 := Option.some.inj h
        subst e1
        exact j_iret B E rfl dX9_fewest_29 (Nat.le_refl _) (Nat.le_refl _) ⟨rfl, rfl, rfl, rfl⟩
    · replace h := h_neg (b2i_0 c) h
      refine j_iconst B dX9_fewest_17 (v := (-1)) (by decide) ?_
      have e1 := Option.some.inj h
      subst e1
      exact j_iret B E rfl dX9_fewest_18 (Nat.le_refl _) (Nat.le_refl _) ⟨rfl, rfl, rfl, rfl⟩
def fX9_corner_43 (ns : Nat) (vi0 : VI) (k7 : Int32 → Int32 → Int32 → Option (Int32)) (x1 : Int32) (x2 : Int32) (x3 : Int32) : Option (Int32) := k7 x1 x2 (x3 + 1)
theorem tX9_corner_43 {G : GT} {sv : SV} {vi0 : VI} {vl0 : VL} {ns : Nat} {Γ : CT} {r : Int32} {k7 : Int32 → Int32 → Int32 → Option (Int32)} (B : Base G Γ mX9_corner 1 0 0) (E : Ends G Γ 0 0 (QI r sv vi0 vl0)) (hW : WF sv ns) (hk7 : ∀ (x1 : Int32) (x2 : Int32) (x3 : Int32), k7 x1 x2 x3 = some (r) → J G Γ 0 0 7 [(0, .ref (G.1 + 0)), (1, .int x1), (2, .int x2), (3, .int x3)] [] sv vi0 vl0) : ∀ (x1 : Int32) (x2 : Int32) (x3 : Int32), fX9_corner_43 ns vi0 k7 x1 x2 x3 = some (r) → J G Γ 0 0 43 [(0, .ref (G.1 + 0)), (1, .int x1), (2, .int x2), (3, .int x3)] [] sv vi0 vl0 := by
  intro x1 x2 x3  h
  unfold fX9_corner_43 at h
  refine j_iinc (v := (x3 + 1)) (L' := [(3, .int (x3 + 1)), (0, .ref (G.1 + 0)), (1, .int x1), (2, .int x2)]) B dX9_corner_43 3 rfl rfl (by decide) rfl ?_
  refine j_goto (tgt := 7) B dX9_corner_46 (by decide) ?_
  refine j_locals [1, 2, 3, 0] rfl ?_
  exact hk7 (x1) (x2) ((x3 + 1))  h
def fX9_corner_7 (ns : Nat) (vi0 : VI) : Nat → Int32 → Int32 → Int32 → Option (Int32)
  | 0, _, _, _ => none
  | F + 1, x1, x2, x3 => if (vi0 0 1) ≤ x3 then some (x1) else if inb x3 ns = true then (fX3_readBits ((98 + 5 * x3.toNatClampNeg) + 1) vi0).bind fun r2 => (fJ6_bitCount_0f7a4 r2).bind fun r3 => if r3 ≤ x2 then fX9_corner_43 ns vi0 (fX9_corner_7 ns vi0 F) x1 x2 x3 else fX9_corner_43 ns vi0 (fX9_corner_7 ns vi0 F) x3 r3 x3 else none
theorem tX9_corner_7 {G : GT} {sv : SV} {vi0 : VI} {vl0 : VL} {ns : Nat} {Γ : CT} {r : Int32} (B : Base G Γ mX9_corner 1 0 0) (E : Ends G Γ 0 0 (QI r sv vi0 vl0)) (hW : WF sv ns) : ∀ (F : Nat) (x1 : Int32) (x2 : Int32) (x3 : Int32), fX9_corner_7 ns vi0 F x1 x2 x3 = some (r) → J G Γ 0 0 7 [(0, .ref (G.1 + 0)), (1, .int x1), (2, .int x2), (3, .int x3)] [] sv vi0 vl0 := by
  intro F
  induction F with
  | zero =>
    intro x1 x2 x3  h
    cases (show (none : Option (Int32)) = some (r) from h)
  | succ F ih =>
    intro x1 x2 x3  h
    rw [fX9_corner_7] at h
    refine j_iload_n B dX9_corner_7 rfl 3 rfl ?_
    refine j_aload_n B dX9_corner_8 rfl 0 rfl ?_
    refine gf_RX9_94 B rfl (wf_2 hW) dX9_corner_9 ?_
    refine j_icmp_ge (tgt := 49) B dX9_corner_12 (by decide) (fun c => ?_) (fun c => ?_)
    · replace h := h_pos c h
      refine j_iload_n B dX9_corner_49 rfl 1 rfl ?_
      have e1 := Option.some.inj h
      subst e1
      exact j_iret B E rfl dX9_corner_50 (Nat.le_refl _) (Nat.le_refl _) ⟨rfl, rfl, rfl, rfl⟩
    · replace h := h_neg c h
      refine j_aload_n B dX9_corner_15 rfl 0 rfl ?_
      refine gf_RX9_11 B rfl (wf_2 hW) (wf_100 hW) dX9_corner_16 ?_
      refine j_iload_n B dX9_corner_19 rfl 3 rfl ?_
      obtain ⟨b1, h⟩ := h_inb h
      refine j_aald B (wf_3 hW) (Or.inr (Or.inr rfl)) (wf_in5 hW b1) (wf_house hW b1) dX9_corner_20 ?_
      refine gf_RX9_141 B rfl ((wf_sill hW b1).1) (wf_sill hW b1).2.2.1 dX9_corner_21 ?_
      obtain ⟨r2, hr2, h⟩ := h_bind h
      refine j_cVI (rest := []) B (tX3_readBits ((wf_sill hW b1).2.2.2.2.2) hr2) cls3 (((wf_sill hW b1).2.2.2.2.2).1) jt_RX9_192 wi_X3_readBits ws_X3_readBits rfl (by decide) (Nat.le_refl _) (Nat.le_refl _) rfl (Nat.le_of_ble_eq_true rfl) dX9_corner_24 ?_
      obtain ⟨r3, hr3, h⟩ := h_bind h
      refine j_cSI (rest := []) B (tJ6_bitCount_0f7a4 hr3) jt_RX9_229 wst_J6_bitCount_0f7a4 rfl (by decide) (Nat.le_refl _) (Nat.le_refl _) rfl (Nat.le_of_ble_eq_true rfl) dX9_corner_27 ?_
      refine j_istore (L' := [(4, .int r3), (0, .ref (G.1 + 0)), (1, .int x1), (2, .int x2), (3, .int x3)]) B dX9_corner_30 (by decide) rfl ?_
      refine j_iload B dX9_corner_32 0 rfl ?_
      refine j_iload_n B dX9_corner_34 rfl 3 rfl ?_
      refine j_icmp_le (tgt := 43) B dX9_corner_35 (by decide) (fun c => ?_) (fun c => ?_)
      · replace h := h_pos c h
        refine j_locals [1, 2, 3, 4] rfl ?_
        exact tX9_corner_43 B E hW ih (x1) (x2) (x3)  h
      · replace h := h_neg c h
        refine j_iload_n B dX9_corner_38 rfl 4 rfl ?_
        refine j_istore_n (L' := [(1, .int x3), (4, .int r3), (0, .ref (G.1 + 0)), (2, .int x2), (3, .int x3)]) B dX9_corner_39 rfl (by decide) rfl ?_
        refine j_iload B dX9_corner_40 1 rfl ?_
        refine j_istore_n (L' := [(2, .int r3), (1, .int x3), (4, .int r3), (0, .ref (G.1 + 0)), (3, .int x3)]) B dX9_corner_42 rfl (by decide) rfl ?_
        refine j_locals [3, 1, 0, 4] rfl ?_
        exact tX9_corner_43 B E hW ih (x3) (r3) (x3)  h
def fX9_corner (ns : Nat) (vi0 : VI) : Option (Int32) := fX9_corner_7 ns vi0 FU (-2) (-1) 0
theorem tX9_corner {G : GT} {sv : SV} {vi0 : VI} {vl0 : VL} {ns : Nat} {r : Int32} (hW : WF sv ns) (h : fX9_corner ns vi0 = some (r)) : Call G mX9_corner 1 0 0 [.ref (G.1 + 0)] sv vi0 vl0 (QI r sv vi0 vl0) := by
  refine j_mk (by decide +kernel) (Nat.le_of_ble_eq_true rfl) (fun Γ B E => ?_)
  show J G Γ 0 0 0 [(0, .ref (G.1 + 0))] [] sv vi0 vl0
  unfold fX9_corner at h
  refine j_bipush B dX9_corner_0 (v := (-2)) (by decide) ?_
  refine j_istore_n (L' := [(1, .int (-2)), (0, .ref (G.1 + 0))]) B dX9_corner_2 rfl (by decide) rfl ?_
  refine j_iconst B dX9_corner_3 (v := (-1)) (by decide) ?_
  refine j_istore_n (L' := [(2, .int (-1)), (1, .int (-2)), (0, .ref (G.1 + 0))]) B dX9_corner_4 rfl (by decide) rfl ?_
  refine j_iconst B dX9_corner_5 (v := 0) (by decide) ?_
  refine j_istore_n (L' := [(3, .int 0), (2, .int (-1)), (1, .int (-2)), (0, .ref (G.1 + 0))]) B dX9_corner_6 rfl (by decide) rfl ?_
  refine j_locals [3, 2, 1, 0] rfl ?_
  exact tX9_corner_7 B E hW FU ((-2)) ((-1)) (0)  h
def fX9_ways (ns : Nat) (x1 : Int32) (x2 : Int32) (vi0 : VI) (vl0 : VL) : Option (Int64 × VI × VL) := (fX9_sillAt ns x1 vi0).bind fun r1 => optS r1 (some ((-9223372036854775808), vi0, vl0)) fun q2 => (fX9_isWithin x2 9).bind fun r3 => if r3 = true then (fX2_workOut q2 x2 (-1) vi0 vl0).bind fun r4 => (fX2_fromBare x2 r4.2).bind fun r5 => some (r5, r4.1, r4.2) else some ((-9223372036854775808), vi0, vl0)
theorem tX9_ways {G : GT} {sv : SV} {vi0 : VI} {vl0 : VL} {ns : Nat} {x1 : Int32} {x2 : Int32} {r : Int64} {vi' : VI} {vl' : VL} (hW : WF sv ns) (h : fX9_ways ns x1 x2 vi0 vl0 = some (r, vi', vl')) : Call G mX9_ways 6 0 0 [.ref (G.1 + 0), .int x1, .int x2] sv vi0 vl0 (QJ r sv vi' vl') := by
  refine j_mk (by decide +kernel) (Nat.le_of_ble_eq_true rfl) (fun Γ B E => ?_)
  show J G Γ 0 0 0 [(0, .ref (G.1 + 0)), (1, .int x1), (2, .int x2)] [] sv vi0 vl0
  unfold fX9_ways at h
  refine j_aload_n B dX9_ways_0 rfl 0 rfl ?_
  refine j_iload_n B dX9_ways_1 rfl 1 rfl ?_
  obtain ⟨r1, hr1, h⟩ := h_bind h
  refine j_cVN (rest := []) B (tX9_sillAt hW hr1) cls9 (wf_2 hW) jt_RX9_137 wi_X9_sillAt ws_X9_sillAt rfl (by decide) (Nat.le_refl _) (Nat.le_refl _) rfl (Nat.le_of_ble_eq_true rfl) dX9_ways_2 ?_
  rcases r1 with _ | q2
  · replace h := h_none h
    refine j_astore_nN (L' := [(3, .null), (0, .ref (G.1 + 0)), (1, .int x1), (2, .int x2)]) B dX9_ways_5 rfl (by decide) rfl ?_
    refine j_aloadN_n B dX9_ways_6 rfl 0 rfl ?_
    refine j_ifnullN (tgt := 19) B dX9_ways_7 (by decide) ?_
    refine j_ldc2 B wk_RX9_234 dX9_ways_19 ?_
    obtain ⟨e1, e2⟩ := Prod.mk.inj (Option.some.inj h)
    obtain ⟨e2, e3⟩ := Prod.mk.inj e2
    subst e1
    subst e2
    subst e3
    exact j_lret B E rfl dX9_ways_22 (Nat.le_refl _) (Nat.le_refl _) ⟨rfl, rfl, rfl, rfl⟩
  · replace h := h_some h
    have is_q2 := sillAt_is hW hr1
    refine j_astore_n (L' := [(3, .ref (G.1 + q2)), (0, .ref (G.1 + 0)), (1, .int x1), (2, .int x2)]) B dX9_ways_5 rfl (by decide) rfl ?_
    refine j_aload_n B dX9_ways_6 rfl 0 rfl ?_
    refine j_ifnull B dX9_ways_7 ?_
    refine j_iload_n B dX9_ways_10 rfl 3 rfl ?_
    refine j_bipush B dX9_ways_11 (v := 9) (by decide) ?_
    obtain ⟨r3, hr3, h⟩ := h_bind h
    refine j_cSI (rest := []) B (tX9_isWithin hr3) jt_RX9_90 wst_X9_isWithin rfl (by decide) (Nat.le_refl _) (Nat.le_refl _) rfl (Nat.le_of_ble_eq_true rfl) dX9_ways_13 ?_
    refine j_if_ne (tgt := 23) B dX9_ways_16 (by decide) (fun c => ?_) (fun c => ?_)
    · replace h := h_pos (b2i_1 c) h
      refine j_aload_n B dX9_ways_23 rfl 1 rfl ?_
      refine gf_RX9_46 B rfl (wf_2 hW) (wf_113 hW) dX9_ways_24 ?_
      refine j_aload_n B dX9_ways_27 rfl 0 rfl ?_
      refine j_iload_n B dX9_ways_28 rfl 3 rfl ?_
      refine j_iconst B dX9_ways_29 (v := (-1)) (by decide) ?_
      obtain ⟨r4, hr4, h⟩ := h_bind h
      refine j_cVV (rest := []) B (tX2_workOut hW (is_q2) hr4) cls2 (wf_18 hW) jt_RX9_236 wi_X2_workOut ws_X2_workOut rfl (by decide) (Nat.le_refl _) (Nat.le_refl _) rfl (Nat.le_of_ble_eq_true rfl) dX9_ways_30 ?_
      refine j_aload_n B dX9_ways_33 rfl 1 rfl ?_
      refine gf_RX9_46 B rfl (wf_2 hW) (wf_113 hW) dX9_ways_34 ?_
      refine j_iload_n B dX9_ways_37 rfl 3 rfl ?_
      obtain ⟨r5, hr5, h⟩ := h_bind h
      refine j_cVJ (rest := []) B (tX2_fromBare hW hr5) cls2 (wf_18 hW) jt_RX9_240 wi_X2_fromBare ws_X2_fromBare rfl (by decide) (Nat.le_refl _) (Nat.le_refl _) rfl (Nat.le_of_ble_eq_true rfl) dX9_ways_38 ?_
      obtain ⟨e1, e2⟩ := Prod.mk.inj (Option.some.inj h)
      obtain ⟨e2, e3⟩ := Prod.mk.inj e2
      subst e1
      subst e2
      subst e3
      exact j_lret B E rfl dX9_ways_41 (Nat.le_refl _) (Nat.le_refl _) ⟨rfl, rfl, rfl, rfl⟩
    · replace h := h_neg (b2i_0 c) h
      refine j_ldc2 B wk_RX9_234 dX9_ways_19 ?_
      obtain ⟨e1, e2⟩ := Prod.mk.inj (Option.some.inj h)
      obtain ⟨e2, e3⟩ := Prod.mk.inj e2
      subst e1
      subst e2
      subst e3
      exact j_lret B E rfl dX9_ways_22 (Nat.le_refl _) (Nat.le_refl _) ⟨rfl, rfl, rfl, rfl⟩
def fX9_first_109 (ns : Nat) (k56 : Int32 → Int32 → Nat → Int32 → Int32 → Int32 → VI → VL → Option (Int32 × VI × VL)) (x2 : Int32) (x3 : Int32) (x4 : Nat) (x6 : Int32) (x7 : Int32) (s0 : Int32) (vi : VI) (vl : VL) : Option (Int32 × VI × VL) := k56 x2 x3 x4 s0 x6 (x7 + 1) vi vl
theorem tX9_first_109 {G : GT} {sv : SV} {ns : Nat} {Γ : CT} {r : Int32} {vi' : VI} {vl' : VL} {k56 : Int32 → Int32 → Nat → Int32 → Int32 → Int32 → VI → VL → Option (Int32 × VI × VL)} (B : Base G Γ mX9_first 6 0 0) (E : Ends G Γ 0 0 (QI r sv vi' vl')) (hW : WF sv ns) (hk56 : ∀ (x2 : Int32) (x3 : Int32) (x4 : Nat) (x5 : Int32) (x6 : Int32) (x7 : Int32) (vi : VI) (vl : VL) (h4 : isSill sv x4), k56 x2 x3 x4 x5 x6 x7 vi vl = some (r, vi', vl') → J G Γ 0 0 56 [(0, .ref (G.1 + 0)), (2, .int x2), (3, .int x3), (4, .ref (G.1 + x4)), (5, .int x5), (6, .int x6), (7, .int x7)] [] sv vi vl) : ∀ (x2 : Int32) (x3 : Int32) (x4 : Nat) (x6 : Int32) (x7 : Int32) (s0 : Int32) (vi : VI) (vl : VL) (h4 : isSill sv x4), fX9_first_109 ns k56 x2 x3 x4 x6 x7 s0 vi vl = some (r, vi', vl') → J G Γ 0 0 109 [(0, .ref (G.1 + 0)), (2, .int x2), (3, .int x3), (4, .ref (G.1 + x4)), (6, .int x6), (7, .int x7)] [.int s0] sv vi vl := by
  intro x2 x3 x4 x6 x7 s0 vi vl h4 h
  unfold fX9_first_109 at h
  refine j_istore (L' := [(5, .int s0), (0, .ref (G.1 + 0)), (2, .int x2), (3, .int x3), (4, .ref (G.1 + x4)), (6, .int x6), (7, .int x7)]) B dX9_first_109 (by decide) rfl ?_
  refine j_iinc (v := (x7 + 1)) (L' := [(7, .int (x7 + 1)), (5, .int s0), (0, .ref (G.1 + 0)), (2, .int x2), (3, .int x3), (4, .ref (G.1 + x4)), (6, .int x6)]) B dX9_first_111 6 rfl rfl (by decide) rfl ?_
  refine j_goto (tgt := 56) B dX9_first_114 (by decide) ?_
  refine j_locals [2, 3, 4, 5, 1, 6, 0] rfl ?_
  exact hk56 (x2) (x3) (x4) (s0) (x6) ((x7 + 1)) (vi) (vl) (h4) h
def fX9_first_56 (ns : Nat) : Nat → Int32 → Int32 → Nat → Int32 → Int32 → Int32 → VI → VL → Option (Int32 × VI × VL)
  | 0, _, _, _, _, _, _, _, _ => none
  | F + 1, x2, x3, x4, x5, x6, x7, vi, vl => if x3 < x7 then some (x6, vi, vl) else if x5 < 0 then some (x6, vi, vl) else (fX2_firstLooking x4 x5 ((x2 - 1) - x7) vi vl).bind fun r5 => if 0 ≤ r5.1 then (fX2_placeBehind x4 x5 r5.1 r5.2).bind fun r6 => fX9_first_109 ns (fX9_first_56 ns F) x2 x3 x4 r5.1 x7 r6.1 r6.2 vl else fX9_first_109 ns (fX9_first_56 ns F) x2 x3 x4 r5.1 x7 (-2) r5.2 vl
theorem tX9_first_56 {G : GT} {sv : SV} {ns : Nat} {Γ : CT} {r : Int32} {vi' : VI} {vl' : VL} (B : Base G Γ mX9_first 6 0 0) (E : Ends G Γ 0 0 (QI r sv vi' vl')) (hW : WF sv ns) : ∀ (F : Nat) (x2 : Int32) (x3 : Int32) (x4 : Nat) (x5 : Int32) (x6 : Int32) (x7 : Int32) (vi : VI) (vl : VL) (h4 : isSill sv x4), fX9_first_56 ns F x2 x3 x4 x5 x6 x7 vi vl = some (r, vi', vl') → J G Γ 0 0 56 [(0, .ref (G.1 + 0)), (2, .int x2), (3, .int x3), (4, .ref (G.1 + x4)), (5, .int x5), (6, .int x6), (7, .int x7)] [] sv vi vl := by
  intro F
  induction F with
  | zero =>
    intro x2 x3 x4 x5 x6 x7 vi vl h4 h
    cases (show (none : Option (Int32 × VI × VL)) = some (r, vi', vl') from h)
  | succ F ih =>
    intro x2 x3 x4 x5 x6 x7 vi vl h4 h
    rw [fX9_first_56] at h
    refine j_iload B dX9_first_56 6 rfl ?_
    refine j_iload_n B dX9_first_58 rfl 2 rfl ?_
    refine j_icmp_gt (tgt := 117) B dX9_first_59 (by decide) (fun c => ?_) (fun c => ?_)
    · replace h := h_pos c h
      refine j_iload B dX9_first_117 5 rfl ?_
      obtain ⟨e1, e2⟩ := Prod.mk.inj (Option.some.inj h)
      obtain ⟨e2, e3⟩ := Prod.mk.inj e2
      subst e1
      subst e2
      subst e3
      exact j_iret B E rfl dX9_first_119 (Nat.le_refl _) (Nat.le_refl _) ⟨rfl, rfl, rfl, rfl⟩
    · replace h := h_neg c h
      refine j_iload B dX9_first_62 4 rfl ?_
      refine j_if_lt (tgt := 117) B dX9_first_64 (by decide) (fun c => ?_) (fun c => ?_)
      · replace h := h_pos c h
        refine j_iload B dX9_first_117 5 rfl ?_
        obtain ⟨e1, e2⟩ := Prod.mk.inj (Option.some.inj h)
        obtain ⟨e2, e3⟩ := Prod.mk.inj e2
        subst e1
        subst e2
        subst e3
        exact j_iret B E rfl dX9_first_119 (Nat.le_refl _) (Nat.le_refl _) ⟨rfl, rfl, rfl, rfl⟩
      · replace h := h_neg c h
        refine j_aload_n B dX9_first_67 rfl 0 rfl ?_
        refine gf_RX9_46 B rfl (wf_2 hW) (wf_113 hW) dX9_first_68 ?_
        refine j_aload B dX9_first_71 3 rfl ?_
        refine j_iload B dX9_first_73 4 rfl ?_
        refine j_iload_n B dX9_first_75 rfl 1 rfl ?_
        refine j_iconst B dX9_first_76 (v := 1) (by decide) ?_
        refine j_isub B dX9_first_77 ?_
        refine j_iload B dX9_first_78 6 rfl ?_
        refine j_isub B dX9_first_80 ?_
        obtain ⟨r5, hr5, h⟩ := h_bind h
        refine j_cVI (rest := []) B (tX2_firstLooking hW (h4) hr5) cls2 (wf_18 hW) jt_RX9_244 wi_X2_firstLooking ws_X2_firstLooking rfl (by decide) (Nat.le_refl _) (Nat.le_refl _) rfl (Nat.le_of_ble_eq_true rfl) dX9_first_81 ?_
        refine j_istore (L' := [(6, .int r5.1), (0, .ref (G.1 + 0)), (2, .int x2), (3, .int x3), (4, .ref (G.1 + x4)), (5, .int x5), (7, .int x7)]) B dX9_first_84 (by decide) rfl ?_
        refine j_iload B dX9_first_86 0 rfl ?_
        refine j_if_ge (tgt := 96) B dX9_first_88 (by decide) (fun c => ?_) (fun c => ?_)
        · replace h := h_pos c h
          refine j_aload_n B dX9_first_96 rfl 1 rfl ?_
          refine gf_RX9_46 B rfl (wf_2 hW) (wf_113 hW) dX9_first_97 ?_
          refine j_aload B dX9_first_100 4 rfl ?_
          refine j_iload B dX9_first_102 5 rfl ?_
          refine j_iload B dX9_first_104 0 rfl ?_
          obtain ⟨r6, hr6, h⟩ := h_bind h
          refine j_cVI (rest := []) B (tX2_placeBehind hW (h4) hr6) cls2 (wf_18 hW) jt_RX9_248 wi_X2_placeBehind ws_X2_placeBehind rfl (by decide) (Nat.le_refl _) (Nat.le_refl _) rfl (Nat.le_of_ble_eq_true rfl) dX9_first_106 ?_
          refine j_locals [1, 2, 3, 4, 0, 6] rfl ?_
          exact tX9_first_109 B E hW ih (x2) (x3) (x4) (r5.1) (x7) (r6.1) (r6.2) (vl) (h4) h
        · replace h := h_neg c h
          refine j_bipush B dX9_first_91 (v := (-2)) (by decide) ?_
          refine j_goto (tgt := 109) B dX9_first_93 (by decide) ?_
          refine j_locals [1, 2, 3, 4, 0, 6] rfl ?_
          exact tX9_first_109 B E hW ih (x2) (x3) (x4) (r5.1) (x7) ((-2)) (r5.2) (vl) (h4) h
def fX9_first (ns : Nat) (x1 : Int32) (x2 : Int32) (x3 : Int32) (vi0 : VI) (vl0 : VL) : Option (Int32 × VI × VL) := (fX9_sillAt ns x1 vi0).bind fun r1 => optS r1 (some ((-1), vi0, vl0)) fun q2 => (fX9_isWithin x2 9).bind fun r3 => if r3 = true then if 0 ≤ x3 then if x3 < x2 then (fX2_workOut q2 x2 (-1) vi0 vl0).bind fun r4 => fX9_first_56 ns FU x2 x3 q2 0 (-2) 0 r4.1 r4.2 else some ((-2), vi0, vl0) else some ((-1), vi0, vl0) else some ((-1), vi0, vl0)
theorem tX9_first {G : GT} {sv : SV} {vi0 : VI} {vl0 : VL} {ns : Nat} {x1 : Int32} {x2 : Int32} {x3 : Int32} {r : Int32} {vi' : VI} {vl' : VL} (hW : WF sv ns) (h : fX9_first ns x1 x2 x3 vi0 vl0 = some (r, vi', vl')) : Call G mX9_first 6 0 0 [.ref (G.1 + 0), .int x1, .int x2, .int x3] sv vi0 vl0 (QI r sv vi' vl') := by
  refine j_mk (by decide +kernel) (Nat.le_of_ble_eq_true rfl) (fun Γ B E => ?_)
  show J G Γ 0 0 0 [(0, .ref (G.1 + 0)), (1, .int x1), (2, .int x2), (3, .int x3)] [] sv vi0 vl0
  unfold fX9_first at h
  refine j_aload_n B dX9_first_0 rfl 0 rfl ?_
  refine j_iload_n B dX9_first_1 rfl 1 rfl ?_
  obtain ⟨r1, hr1, h⟩ := h_bind h
  refine j_cVN (rest := []) B (tX9_sillAt hW hr1) cls9 (wf_2 hW) jt_RX9_137 wi_X9_sillAt ws_X9_sillAt rfl (by decide) (Nat.le_refl _) (Nat.le_refl _) rfl (Nat.le_of_ble_eq_true rfl) dX9_first_2 ?_
  rcases r1 with _ | q2
  · replace h := h_none h
    refine j_astoreN (L' := [(4, .null), (0, .ref (G.1 + 0)), (1, .int x1), (2, .int x2), (3, .int x3)]) B dX9_first_5 (by decide) rfl ?_
    refine j_aloadN B dX9_first_7 0 rfl ?_
    refine j_ifnullN (tgt := 25) B dX9_first_9 (by decide) ?_
    refine j_iconst B dX9_first_25 (v := (-1)) (by decide) ?_
    obtain ⟨e1, e2⟩ := Prod.mk.inj (Option.some.inj h)
    obtain ⟨e2, e3⟩ := Prod.mk.inj e2
    subst e1
    subst e2
    subst e3
    exact j_iret B E rfl dX9_first_26 (Nat.le_refl _) (Nat.le_refl _) ⟨rfl, rfl, rfl, rfl⟩
  · replace h := h_some h
    have is_q2 := sillAt_is hW hr1
    refine j_astore (L' := [(4, .ref (G.1 + q2)), (0, .ref (G.1 + 0)), (1, .int x1), (2, .int x2), (3, .int x3)]) B dX9_first_5 (by decide) rfl ?_
    refine j_aload B dX9_first_7 0 rfl ?_
    refine j_ifnull B dX9_first_9 ?_
    refine j_iload_n B dX9_first_12 rfl 3 rfl ?_
    refine j_bipush B dX9_first_13 (v := 9) (by decide) ?_
    obtain ⟨r3, hr3, h⟩ := h_bind h
    refine j_cSI (rest := []) B (tX9_isWithin hr3) jt_RX9_90 wst_X9_isWithin rfl (by decide) (Nat.le_refl _) (Nat.le_refl _) rfl (Nat.le_of_ble_eq_true rfl) dX9_first_15 ?_
    refine j_if_eq (tgt := 25) B dX9_first_18 (by decide) (fun c => ?_) (fun c => ?_)
    · replace h := h_neg (b2i_0 c) h
      refine j_iconst B dX9_first_25 (v := (-1)) (by decide) ?_
      obtain ⟨e1, e2⟩ := Prod.mk.inj (Option.some.inj h)
      obtain ⟨e2, e3⟩ := Prod.mk.inj e2
      subst e1
      subst e2
      subst e3
      exact j_iret B E rfl dX9_first_26 (Nat.le_refl _) (Nat.le_refl _) ⟨rfl, rfl, rfl, rfl⟩
    · replace h := h_pos (b2i_1 c) h
      refine j_iload_n B dX9_first_21 rfl 4 rfl ?_
      refine j_if_ge (tgt := 27) B dX9_first_22 (by decide) (fun c => ?_) (fun c => ?_)
      · replace h := h_pos c h
        refine j_iload_n B dX9_first_27 rfl 4 rfl ?_
        refine j_iload_n B dX9_first_28 rfl 3 rfl ?_
        refine j_icmp_lt (tgt := 35) B dX9_first_29 (by decide) (fun c => ?_) (fun c => ?_)
        · replace h := h_pos c h
          refine j_aload_n B dX9_first_35 rfl 1 rfl ?_
          refine gf_RX9_46 B rfl (wf_2 hW) (wf_113 hW) dX9_first_36 ?_
          refine j_aload B dX9_first_39 0 rfl ?_
          refine j_iload_n B dX9_first_41 rfl 3 rfl ?_
          refine j_iconst B dX9_first_42 (v := (-1)) (by decide) ?_
          obtain ⟨r4, hr4, h⟩ := h_bind h
          refine j_cVV (rest := []) B (tX2_workOut hW (is_q2) hr4) cls2 (wf_18 hW) jt_RX9_236 wi_X2_workOut ws_X2_workOut rfl (by decide) (Nat.le_refl _) (Nat.le_refl _) rfl (Nat.le_of_ble_eq_true rfl) dX9_first_43 ?_
          refine j_iconst B dX9_first_46 (v := 0) (by decide) ?_
          refine j_istore (L' := [(5, .int 0), (4, .ref (G.1 + q2)), (0, .ref (G.1 + 0)), (1, .int x1), (2, .int x2), (3, .int x3)]) B dX9_first_47 (by decide) rfl ?_
          refine j_bipush B dX9_first_49 (v := (-2)) (by decide) ?_
          refine j_istore (L' := [(6, .int (-2)), (5, .int 0), (4, .ref (G.1 + q2)), (0, .ref (G.1 + 0)), (1, .int x1), (2, .int x2), (3, .int x3)]) B dX9_first_51 (by decide) rfl ?_
          refine j_iconst B dX9_first_53 (v := 0) (by decide) ?_
          refine j_istore (L' := [(7, .int 0), (6, .int (-2)), (5, .int 0), (4, .ref (G.1 + q2)), (0, .ref (G.1 + 0)), (1, .int x1), (2, .int x2), (3, .int x3)]) B dX9_first_54 (by decide) rfl ?_
          refine j_locals [4, 6, 7, 3, 2, 1, 0] rfl ?_
          exact tX9_first_56 B E hW FU (x2) (x3) (q2) (0) ((-2)) (0) (r4.1) (r4.2) (is_q2) h
        · replace h := h_neg c h
          refine j_bipush B dX9_first_32 (v := (-2)) (by decide) ?_
          obtain ⟨e1, e2⟩ := Prod.mk.inj (Option.some.inj h)
          obtain ⟨e2, e3⟩ := Prod.mk.inj e2
          subst e1
          subst e2
          subst e3
          exact j_iret B E rfl dX9_first_34 (Nat.le_refl _) (Nat.le_refl _) ⟨rfl, rfl, rfl, rfl⟩
      · replace h := h_neg c h
        refine j_iconst B dX9_first_25 (v := (-1)) (by decide) ?_
        obtain ⟨e1, e2⟩ := Prod.mk.inj (Option.some.inj h)
        obtain ⟨e2, e3⟩ := Prod.mk.inj e2
        subst e1
        subst e2
        subst e3
        exact j_iret B E rfl dX9_first_26 (Nat.le_refl _) (Nat.le_refl _) ⟨rfl, rfl, rfl, rfl⟩
def fX9_least_25 (ns : Nat) : Nat → Int32 → VI → VL → Option (Int32 × VI × VL)
  | 0, _, _, _ => none
  | F + 1, x3, vi, vl => if 9 < x3 then some ((-2), vi, vl) else (fX2_fromBare x3 vl).bind fun r4 => if (lg_cmp r4 0) ≤ 0 then fX9_least_25 ns F (x3 + 1) vi vl else some (x3, vi, vl)
theorem tX9_least_25 {G : GT} {sv : SV} {ns : Nat} {Γ : CT} {r : Int32} {vi' : VI} {vl' : VL} (B : Base G Γ mX9_least 6 0 0) (E : Ends G Γ 0 0 (QI r sv vi' vl')) (hW : WF sv ns) : ∀ (F : Nat) (x3 : Int32) (vi : VI) (vl : VL), fX9_least_25 ns F x3 vi vl = some (r, vi', vl') → J G Γ 0 0 25 [(0, .ref (G.1 + 0)), (3, .int x3)] [] sv vi vl := by
  intro F
  induction F with
  | zero =>
    intro x3 vi vl  h
    cases (show (none : Option (Int32 × VI × VL)) = some (r, vi', vl') from h)
  | succ F ih =>
    intro x3 vi vl  h
    rw [fX9_least_25] at h
    refine j_iload_n B dX9_least_25 rfl 1 rfl ?_
    refine j_bipush B dX9_least_26 (v := 9) (by decide) ?_
    refine j_icmp_gt (tgt := 52) B dX9_least_28 (by decide) (fun c => ?_) (fun c => ?_)
    · replace h := h_pos c h
      refine j_bipush B dX9_least_52 (v := (-2)) (by decide) ?_
      obtain ⟨e1, e2⟩ := Prod.mk.inj (Option.some.inj h)
      obtain ⟨e2, e3⟩ := Prod.mk.inj e2
      subst e1
      subst e2
      subst e3
      exact j_iret B E rfl dX9_least_54 (Nat.le_refl _) (Nat.le_refl _) ⟨rfl, rfl, rfl, rfl⟩
    · replace h := h_neg c h
      refine j_aload_n B dX9_least_31 rfl 0 rfl ?_
      refine gf_RX9_46 B rfl (wf_2 hW) (wf_113 hW) dX9_least_32 ?_
      refine j_iload_n B dX9_least_35 rfl 1 rfl ?_
      obtain ⟨r4, hr4, h⟩ := h_bind h
      refine j_cVJ (rest := []) B (tX2_fromBare hW hr4) cls2 (wf_18 hW) jt_RX9_240 wi_X2_fromBare ws_X2_fromBare rfl (by decide) (Nat.le_refl _) (Nat.le_refl _) rfl (Nat.le_of_ble_eq_true rfl) dX9_least_36 ?_
      refine j_lconst B dX9_least_39 (v := 0) rfl ?_
      refine j_lcmp B dX9_least_40 ?_
      refine j_if_le (tgt := 46) B dX9_least_41 (by decide) (fun c => ?_) (fun c => ?_)
      · replace h := h_pos c h
        refine j_iinc (v := (x3 + 1)) (L' := [(3, .int (x3 + 1)), (0, .ref (G.1 + 0))]) B dX9_least_46 1 rfl rfl (by decide) rfl ?_
        refine j_goto (tgt := 25) B dX9_least_49 (by decide) ?_
        refine j_locals [1, 0] rfl ?_
        exact ih ((x3 + 1)) (vi) (vl)  h
      · replace h := h_neg c h
        refine j_iload_n B dX9_least_44 rfl 1 rfl ?_
        obtain ⟨e1, e2⟩ := Prod.mk.inj (Option.some.inj h)
        obtain ⟨e2, e3⟩ := Prod.mk.inj e2
        subst e1
        subst e2
        subst e3
        exact j_iret B E rfl dX9_least_45 (Nat.le_refl _) (Nat.le_refl _) ⟨rfl, rfl, rfl, rfl⟩
def fX9_least (ns : Nat) (x1 : Int32) (vi0 : VI) (vl0 : VL) : Option (Int32 × VI × VL) := (fX9_sillAt ns x1 vi0).bind fun r1 => optS r1 (some ((-1), vi0, vl0)) fun q2 => (fX2_workOut q2 9 (-1) vi0 vl0).bind fun r3 => fX9_least_25 ns FU 0 r3.1 r3.2
theorem tX9_least {G : GT} {sv : SV} {vi0 : VI} {vl0 : VL} {ns : Nat} {x1 : Int32} {r : Int32} {vi' : VI} {vl' : VL} (hW : WF sv ns) (h : fX9_least ns x1 vi0 vl0 = some (r, vi', vl')) : Call G mX9_least 6 0 0 [.ref (G.1 + 0), .int x1] sv vi0 vl0 (QI r sv vi' vl') := by
  refine j_mk (by decide +kernel) (Nat.le_of_ble_eq_true rfl) (fun Γ B E => ?_)
  show J G Γ 0 0 0 [(0, .ref (G.1 + 0)), (1, .int x1)] [] sv vi0 vl0
  unfold fX9_least at h
  refine j_aload_n B dX9_least_0 rfl 0 rfl ?_
  refine j_iload_n B dX9_least_1 rfl 1 rfl ?_
  obtain ⟨r1, hr1, h⟩ := h_bind h
  refine j_cVN (rest := []) B (tX9_sillAt hW hr1) cls9 (wf_2 hW) jt_RX9_137 wi_X9_sillAt ws_X9_sillAt rfl (by decide) (Nat.le_refl _) (Nat.le_refl _) rfl (Nat.le_of_ble_eq_true rfl) dX9_least_2 ?_
  rcases r1 with _ | q2
  · replace h := h_none h
    refine j_astore_nN (L' := [(2, .null), (0, .ref (G.1 + 0)), (1, .int x1)]) B dX9_least_5 rfl (by decide) rfl ?_
    refine j_aloadN_n B dX9_least_6 rfl 0 rfl ?_
    refine j_ifnonnullN B dX9_least_7 ?_
    refine j_iconst B dX9_least_10 (v := (-1)) (by decide) ?_
    obtain ⟨e1, e2⟩ := Prod.mk.inj (Option.some.inj h)
    obtain ⟨e2, e3⟩ := Prod.mk.inj e2
    subst e1
    subst e2
    subst e3
    exact j_iret B E rfl dX9_least_11 (Nat.le_refl _) (Nat.le_refl _) ⟨rfl, rfl, rfl, rfl⟩
  · replace h := h_some h
    have is_q2 := sillAt_is hW hr1
    refine j_astore_n (L' := [(2, .ref (G.1 + q2)), (0, .ref (G.1 + 0)), (1, .int x1)]) B dX9_least_5 rfl (by decide) rfl ?_
    refine j_aload_n B dX9_least_6 rfl 0 rfl ?_
    refine j_ifnonnull (tgt := 12) B dX9_least_7 (by decide) ?_
    refine j_aload_n B dX9_least_12 rfl 1 rfl ?_
    refine gf_RX9_46 B rfl (wf_2 hW) (wf_113 hW) dX9_least_13 ?_
    refine j_aload_n B dX9_least_16 rfl 0 rfl ?_
    refine j_bipush B dX9_least_17 (v := 9) (by decide) ?_
    refine j_iconst B dX9_least_19 (v := (-1)) (by decide) ?_
    obtain ⟨r3, hr3, h⟩ := h_bind h
    refine j_cVV (rest := []) B (tX2_workOut hW (is_q2) hr3) cls2 (wf_18 hW) jt_RX9_236 wi_X2_workOut ws_X2_workOut rfl (by decide) (Nat.le_refl _) (Nat.le_refl _) rfl (Nat.le_of_ble_eq_true rfl) dX9_least_20 ?_
    refine j_iconst B dX9_least_23 (v := 0) (by decide) ?_
    refine j_istore_n (L' := [(3, .int 0), (2, .ref (G.1 + q2)), (0, .ref (G.1 + 0)), (1, .int x1)]) B dX9_least_24 rfl (by decide) rfl ?_
    refine j_locals [2, 0] rfl ?_
    exact tX9_least_25 B E hW FU (0) (r3.1) (r3.2)  h
