def fX10_findWays_78  (k13 : Int32 → Int32 → VI → VL → Option (VI × VL)) (k22 : Int32 → Int32 → Int32 → VI → VL → Option (VI × VL)) (k32 : Int32 → Int32 → Int32 → Int32 → VI → VL → Option (VI × VL)) (x2 : Int32) (x4 : Int32) (x5 : Int32) (x6 : Int32) (s1 : Int32) (s2 : Int64) (vi : VI) (vl : VL) : Option (VI × VL) := if inb s1 10000 = true then k32 x2 x4 x5 (x6 + 1) vi (j_up vl 84 s1.toNatClampNeg s2) else none
theorem tX10_findWays_78 {G : GT} {sv : SV} {ns : Nat} {Γ : CT} {vi' : VI} {vl' : VL} {k13 : Int32 → Int32 → VI → VL → Option (VI × VL)} {k22 : Int32 → Int32 → Int32 → VI → VL → Option (VI × VL)} {k32 : Int32 → Int32 → Int32 → Int32 → VI → VL → Option (VI × VL)} (B : Base G Γ mX10_findWays 5 0 0) (E : Ends G Γ 0 0 (QV sv vi' vl')) (hW : WF sv ns) (hk13 : ∀ (x2 : Int32) (x4 : Int32) (vi : VI) (vl : VL), k13 x2 x4 vi vl = some (vi', vl') → J G Γ 0 0 13 [(0, .ref (G.1 + 63)), (2, .int x2), (4, .int x4)] [] sv vi vl) (hk22 : ∀ (x2 : Int32) (x4 : Int32) (x5 : Int32) (vi : VI) (vl : VL), k22 x2 x4 x5 vi vl = some (vi', vl') → J G Γ 0 0 22 [(0, .ref (G.1 + 63)), (2, .int x2), (4, .int x4), (5, .int x5)] [] sv vi vl) (hk32 : ∀ (x2 : Int32) (x4 : Int32) (x5 : Int32) (x6 : Int32) (vi : VI) (vl : VL), k32 x2 x4 x5 x6 vi vl = some (vi', vl') → J G Γ 0 0 32 [(0, .ref (G.1 + 63)), (2, .int x2), (4, .int x4), (5, .int x5), (6, .int x6)] [] sv vi vl) : ∀ (x2 : Int32) (x4 : Int32) (x5 : Int32) (x6 : Int32) (s1 : Int32) (s2 : Int64) (vi : VI) (vl : VL), fX10_findWays_78 k13 k22 k32 x2 x4 x5 x6 s1 s2 vi vl = some (vi', vl') → J G Γ 0 0 78 [(0, .ref (G.1 + 63)), (2, .int x2), (4, .int x4), (5, .int x5), (6, .int x6)] [.long s2, .int s1, .ref (G.1 + 84)] sv vi vl := by
  intro x2 x4 x5 x6 s1 s2 vi vl  h
  unfold fX10_findWays_78 at h
  obtain ⟨b4, h⟩ := h_inb h
  refine j_last B ((wf_86 hW)) b4 dX10_findWays_78 ?_
  refine j_iinc (v := (x6 + 1)) (L' := [(6, .int (x6 + 1)), (0, .ref (G.1 + 63)), (2, .int x2), (4, .int x4), (5, .int x5)]) B dX10_findWays_79 4 rfl rfl (by decide) rfl ?_
  refine j_goto (tgt := 32) B dX10_findWays_82 (by decide) ?_
  refine j_locals [1, 2, 3, 4, 0] rfl ?_
  exact hk32 (x2) (x4) (x5) ((x6 + 1)) (vi) ((j_up vl 84 s1.toNatClampNeg s2))  h
def fX10_findWays_32  (k13 : Int32 → Int32 → VI → VL → Option (VI × VL)) (k22 : Int32 → Int32 → Int32 → VI → VL → Option (VI × VL)) : Nat → Int32 → Int32 → Int32 → Int32 → VI → VL → Option (VI × VL)
  | 0, _, _, _, _, _, _ => none
  | F + 1, x2, x4, x5, x6, vi, vl => if 100 ≤ x6 then k22 x2 x4 (x5 + 1) vi vl else (fX10_wayAt x4 x5 x6).bind fun r2 => if x4 = 0 then (fX10_isThere x5 x6 vi).bind fun r5 => fX10_findWays_78 k13 k22 (fX10_findWays_32 k13 k22 F) x2 x4 x5 x6 r2 r5 vi vl else (fX10_sumWays x4 x5 x6 vi vl).bind fun r3 => fX10_findWays_78 k13 k22 (fX10_findWays_32 k13 k22 F) x2 x4 x5 x6 r2 r3 vi vl
theorem tX10_findWays_32 {G : GT} {sv : SV} {ns : Nat} {Γ : CT} {vi' : VI} {vl' : VL} {k13 : Int32 → Int32 → VI → VL → Option (VI × VL)} {k22 : Int32 → Int32 → Int32 → VI → VL → Option (VI × VL)} (B : Base G Γ mX10_findWays 5 0 0) (E : Ends G Γ 0 0 (QV sv vi' vl')) (hW : WF sv ns) (hk13 : ∀ (x2 : Int32) (x4 : Int32) (vi : VI) (vl : VL), k13 x2 x4 vi vl = some (vi', vl') → J G Γ 0 0 13 [(0, .ref (G.1 + 63)), (2, .int x2), (4, .int x4)] [] sv vi vl) (hk22 : ∀ (x2 : Int32) (x4 : Int32) (x5 : Int32) (vi : VI) (vl : VL), k22 x2 x4 x5 vi vl = some (vi', vl') → J G Γ 0 0 22 [(0, .ref (G.1 + 63)), (2, .int x2), (4, .int x4), (5, .int x5)] [] sv vi vl) : ∀ (F : Nat) (x2 : Int32) (x4 : Int32) (x5 : Int32) (x6 : Int32) (vi : VI) (vl : VL), fX10_findWays_32 k13 k22 F x2 x4 x5 x6 vi vl = some (vi', vl') → J G Γ 0 0 32 [(0, .ref (G.1 + 63)), (2, .int x2), (4, .int x4), (5, .int x5), (6, .int x6)] [] sv vi vl := by
  intro F
  induction F with
  | zero =>
    intro x2 x4 x5 x6 vi vl  h
    cases (show (none : Option (VI × VL)) = some (vi', vl') from h)
  | succ F ih =>
    intro x2 x4 x5 x6 vi vl  h
    rw [fX10_findWays_32] at h
    refine j_iload B dX10_findWays_32 4 rfl ?_
    refine j_bipush B dX10_findWays_34 (v := 100) (by decide) ?_
    refine j_icmp_ge (tgt := 85) B dX10_findWays_36 (by decide) (fun c => ?_) (fun c => ?_)
    · replace h := h_pos c h
      refine j_iinc (v := (x5 + 1)) (L' := [(5, .int (x5 + 1)), (0, .ref (G.1 + 63)), (2, .int x2), (4, .int x4), (6, .int x6)]) B dX10_findWays_85 3 rfl rfl (by decide) rfl ?_
      refine j_goto (tgt := 22) B dX10_findWays_88 (by decide) ?_
      refine j_locals [1, 2, 3, 0] rfl ?_
      exact hk22 (x2) (x4) ((x5 + 1)) (vi) (vl)  h
    · replace h := h_neg c h
      refine j_aload_n B dX10_findWays_39 rfl 0 rfl ?_
      refine gf_RX10_74 B rfl (wf_65 hW) (wf_182 hW) dX10_findWays_40 ?_
      refine j_iload B dX10_findWays_43 2 rfl ?_
      refine j_iload B dX10_findWays_45 3 rfl ?_
      refine j_iload B dX10_findWays_47 4 rfl ?_
      obtain ⟨r2, hr2, h⟩ := h_bind h
      refine j_cSI (rest := [.ref (G.1 + 84)]) B (tX10_wayAt hr2) jt_RX10_317 wst_X10_wayAt rfl (by decide) (Nat.le_refl _) (Nat.le_refl _) rfl (Nat.le_of_ble_eq_true rfl) dX10_findWays_49 ?_
      refine j_iload B dX10_findWays_52 2 rfl ?_
      refine j_if_ne (tgt := 68) B dX10_findWays_54 (by decide) (fun c => ?_) (fun c => ?_)
      · replace h := h_neg c h
        refine j_aload_n B dX10_findWays_68 rfl 0 rfl ?_
        refine j_iload B dX10_findWays_69 2 rfl ?_
        refine j_iload B dX10_findWays_71 3 rfl ?_
        refine j_iload B dX10_findWays_73 4 rfl ?_
        obtain ⟨r3, hr3, h⟩ := h_bind h
        refine j_cVJ (rest := [.int r2, .ref (G.1 + 84)]) B (tX10_sumWays hW hr3) cls10 (wf_65 hW) jt_RX10_330 wi_X10_sumWays ws_X10_sumWays rfl (by decide) (Nat.le_refl _) (Nat.le_refl _) rfl (Nat.le_of_ble_eq_true rfl) dX10_findWays_75 ?_
        refine j_locals [0, 1, 2, 3, 4] rfl ?_
        exact tX10_findWays_78 B E hW hk13 hk22 ih (x2) (x4) (x5) (x6) (r2) (r3) (vi) (vl)  h
      · replace h := h_pos c h
        refine j_aload_n B dX10_findWays_57 rfl 0 rfl ?_
        refine j_iload B dX10_findWays_58 3 rfl ?_
        refine j_iload B dX10_findWays_60 4 rfl ?_
        obtain ⟨r5, hr5, h⟩ := h_bind h
        refine j_cVJ (rest := [.int r2, .ref (G.1 + 84)]) B (tX10_isThere hW hr5) cls10 (wf_65 hW) jt_RX10_326 wi_X10_isThere ws_X10_isThere rfl (by decide) (Nat.le_refl _) (Nat.le_refl _) rfl (Nat.le_of_ble_eq_true rfl) dX10_findWays_62 ?_
        refine j_goto (tgt := 78) B dX10_findWays_65 (by decide) ?_
        refine j_locals [0, 1, 2, 3, 4] rfl ?_
        exact tX10_findWays_78 B E hW hk13 hk22 ih (x2) (x4) (x5) (x6) (r2) (r5) (vi) (vl)  h
def fX10_findWays_22  (k13 : Int32 → Int32 → VI → VL → Option (VI × VL)) : Nat → Int32 → Int32 → Int32 → VI → VL → Option (VI × VL)
  | 0, _, _, _, _, _ => none
  | F + 1, x2, x4, x5, vi, vl => if 10 ≤ x5 then k13 x2 (x4 + 1) vi vl else fX10_findWays_32 k13 (fX10_findWays_22 k13 F) FU x2 x4 x5 0 vi vl
theorem tX10_findWays_22 {G : GT} {sv : SV} {ns : Nat} {Γ : CT} {vi' : VI} {vl' : VL} {k13 : Int32 → Int32 → VI → VL → Option (VI × VL)} (B : Base G Γ mX10_findWays 5 0 0) (E : Ends G Γ 0 0 (QV sv vi' vl')) (hW : WF sv ns) (hk13 : ∀ (x2 : Int32) (x4 : Int32) (vi : VI) (vl : VL), k13 x2 x4 vi vl = some (vi', vl') → J G Γ 0 0 13 [(0, .ref (G.1 + 63)), (2, .int x2), (4, .int x4)] [] sv vi vl) : ∀ (F : Nat) (x2 : Int32) (x4 : Int32) (x5 : Int32) (vi : VI) (vl : VL), fX10_findWays_22 k13 F x2 x4 x5 vi vl = some (vi', vl') → J G Γ 0 0 22 [(0, .ref (G.1 + 63)), (2, .int x2), (4, .int x4), (5, .int x5)] [] sv vi vl := by
  intro F
  induction F with
  | zero =>
    intro x2 x4 x5 vi vl  h
    cases (show (none : Option (VI × VL)) = some (vi', vl') from h)
  | succ F ih =>
    intro x2 x4 x5 vi vl  h
    rw [fX10_findWays_22] at h
    refine j_iload B dX10_findWays_22 3 rfl ?_
    refine j_bipush B dX10_findWays_24 (v := 10) (by decide) ?_
    refine j_icmp_ge (tgt := 91) B dX10_findWays_26 (by decide) (fun c => ?_) (fun c => ?_)
    · replace h := h_pos c h
      refine j_iinc (v := (x4 + 1)) (L' := [(4, .int (x4 + 1)), (0, .ref (G.1 + 63)), (2, .int x2), (5, .int x5)]) B dX10_findWays_91 2 rfl rfl (by decide) rfl ?_
      refine j_goto (tgt := 13) B dX10_findWays_94 (by decide) ?_
      refine j_locals [1, 2, 0] rfl ?_
      exact hk13 (x2) ((x4 + 1)) (vi) (vl)  h
    · replace h := h_neg c h
      refine j_iconst B dX10_findWays_29 (v := 0) (by decide) ?_
      refine j_istore (L' := [(6, .int 0), (0, .ref (G.1 + 63)), (2, .int x2), (4, .int x4), (5, .int x5)]) B dX10_findWays_30 (by decide) rfl ?_
      refine j_locals [1, 2, 3, 4, 0] rfl ?_
      exact tX10_findWays_32 B E hW hk13 ih FU (x2) (x4) (x5) (0) (vi) (vl)  h
def fX10_findWays_13  : Nat → Int32 → Int32 → VI → VL → Option (VI × VL)
  | 0, _, _, _, _ => none
  | F + 1, x2, x4, vi, vl => if x2 < x4 then some (vi, vl) else fX10_findWays_22 (fX10_findWays_13  F) FU x2 x4 0 vi vl
theorem tX10_findWays_13 {G : GT} {sv : SV} {ns : Nat} {Γ : CT} {vi' : VI} {vl' : VL} (B : Base G Γ mX10_findWays 5 0 0) (E : Ends G Γ 0 0 (QV sv vi' vl')) (hW : WF sv ns) : ∀ (F : Nat) (x2 : Int32) (x4 : Int32) (vi : VI) (vl : VL), fX10_findWays_13  F x2 x4 vi vl = some (vi', vl') → J G Γ 0 0 13 [(0, .ref (G.1 + 63)), (2, .int x2), (4, .int x4)] [] sv vi vl := by
  intro F
  induction F with
  | zero =>
    intro x2 x4 vi vl  h
    cases (show (none : Option (VI × VL)) = some (vi', vl') from h)
  | succ F ih =>
    intro x2 x4 vi vl  h
    rw [fX10_findWays_13] at h
    refine j_iload B dX10_findWays_13 2 rfl ?_
    refine j_iload_n B dX10_findWays_15 rfl 1 rfl ?_
    refine j_icmp_gt (tgt := 97) B dX10_findWays_16 (by decide) (fun c => ?_) (fun c => ?_)
    · replace h := h_pos c h
      obtain ⟨e1, e2⟩ := Prod.mk.inj (Option.some.inj h)
      subst e1
      subst e2
      exact j_vret B E rfl dX10_findWays_97 (Nat.le_refl _) (Nat.le_refl _) ⟨rfl, rfl, rfl, rfl⟩
    · replace h := h_neg c h
      refine j_iconst B dX10_findWays_19 (v := 0) (by decide) ?_
      refine j_istore (L' := [(5, .int 0), (0, .ref (G.1 + 63)), (2, .int x2), (4, .int x4)]) B dX10_findWays_20 (by decide) rfl ?_
      refine j_locals [1, 2, 3, 0] rfl ?_
      exact tX10_findWays_22 B E hW ih FU (x2) (x4) (0) (vi) (vl)  h
def fX10_findWays (x1 : Int32) (x2 : Int32) (x3 : Int32) (vi0 : VI) (vl0 : VL) : Option (VI × VL) := (fX10_layAmounts x1 vi0).bind fun r1 => fX10_findWays_13  FU x2 0 (j_up r1 63 36 x3) vl0
theorem tX10_findWays {G : GT} {sv : SV} {vi0 : VI} {vl0 : VL} {ns : Nat} {x1 : Int32} {x2 : Int32} {x3 : Int32} {vi' : VI} {vl' : VL} (hW : WF sv ns) (h : fX10_findWays x1 x2 x3 vi0 vl0 = some (vi', vl')) : Call G mX10_findWays 5 0 0 [.ref (G.1 + 63), .int x1, .int x2, .int x3] sv vi0 vl0 (QV sv vi' vl') := by
  refine j_mk (by decide +kernel) (Nat.le_of_ble_eq_true rfl) (fun Γ B E => ?_)
  show J G Γ 0 0 0 [(0, .ref (G.1 + 63)), (1, .int x1), (2, .int x2), (3, .int x3)] [] sv vi0 vl0
  unfold fX10_findWays at h
  refine j_aload_n B dX10_findWays_0 rfl 0 rfl ?_
  refine j_iload_n B dX10_findWays_1 rfl 1 rfl ?_
  obtain ⟨r1, hr1, h⟩ := h_bind h
  refine j_cVV (rest := []) B (tX10_layAmounts hW hr1) cls10 (wf_65 hW) jt_RX10_323 wi_X10_layAmounts ws_X10_layAmounts rfl (by decide) (Nat.le_refl _) (Nat.le_refl _) rfl (Nat.le_of_ble_eq_true rfl) dX10_findWays_2 ?_
  refine j_aload_n B dX10_findWays_5 rfl 0 rfl ?_
  refine j_iload_n B dX10_findWays_6 rfl 3 rfl ?_
  refine pf_RX10_320 B rfl (wf_65 hW) dX10_findWays_7 ?_
  refine j_iconst B dX10_findWays_10 (v := 0) (by decide) ?_
  refine j_istore (L' := [(4, .int 0), (0, .ref (G.1 + 63)), (1, .int x1), (2, .int x2), (3, .int x3)]) B dX10_findWays_11 (by decide) rfl ?_
  refine j_locals [1, 3, 0] rfl ?_
  exact tX10_findWays_13 B E hW FU (x2) (0) ((j_up r1 63 36 x3)) (vl0)  h
def fX10_areDays (x0 : Int32)  : Option (Bool) := (fX10_in x0 0 9).bind fun r1 => some (r1)
theorem tX10_areDays {G : GT} {sv : SV} {vi0 : VI} {vl0 : VL} {x0 : Int32} {r : Bool} (h : fX10_areDays x0 = some (r)) : Call G mX10_areDays 1 0 0 [.int x0] sv vi0 vl0 (QI (b2i r) sv vi0 vl0) := by
  refine j_mk (by decide +kernel) (Nat.le_of_ble_eq_true rfl) (fun Γ B E => ?_)
  show J G Γ 0 0 0 [(0, .int x0)] [] sv vi0 vl0
  unfold fX10_areDays at h
  refine j_iload_n B dX10_areDays_0 rfl 0 rfl ?_
  refine j_iconst B dX10_areDays_1 (v := 0) (by decide) ?_
  refine j_bipush B dX10_areDays_2 (v := 9) (by decide) ?_
  obtain ⟨r1, hr1, h⟩ := h_bind h
  refine j_cSI (rest := []) B (tX10_in hr1) jt_RX10_124 wst_X10_in rfl (by decide) (Nat.le_refl _) (Nat.le_refl _) rfl (Nat.le_of_ble_eq_true rfl) dX10_areDays_4 ?_
  have z9 := b2i_or r1
  have e1 := Option.some.inj h
  subst e1
  exact j_zret B E rfl z9 dX10_areDays_7 (Nat.le_refl _) (Nat.le_refl _) ⟨rfl, rfl, rfl, rfl⟩
def fX10_allWays (x1 : Int32) (x2 : Int32) (x3 : Int32) (vi0 : VI) (vl0 : VL) : Option (Int64 × VI × VL) := (fX10_findWays x1 x2 x3 vi0 vl0).bind fun r1 => (fX10_wayAt x2 0 0).bind fun r2 => if inb r2 10000 = true then some ((r1.2 84 r2.toNatClampNeg), r1.1, r1.2) else none
theorem tX10_allWays {G : GT} {sv : SV} {vi0 : VI} {vl0 : VL} {ns : Nat} {x1 : Int32} {x2 : Int32} {x3 : Int32} {r : Int64} {vi' : VI} {vl' : VL} (hW : WF sv ns) (h : fX10_allWays x1 x2 x3 vi0 vl0 = some (r, vi', vl')) : Call G mX10_allWays 6 0 0 [.ref (G.1 + 63), .int x1, .int x2, .int x3] sv vi0 vl0 (QJ r sv vi' vl') := by
  refine j_mk (by decide +kernel) (Nat.le_of_ble_eq_true rfl) (fun Γ B E => ?_)
  show J G Γ 0 0 0 [(0, .ref (G.1 + 63)), (1, .int x1), (2, .int x2), (3, .int x3)] [] sv vi0 vl0
  unfold fX10_allWays at h
  refine j_aload_n B dX10_allWays_0 rfl 0 rfl ?_
  refine j_iload_n B dX10_allWays_1 rfl 1 rfl ?_
  refine j_iload_n B dX10_allWays_2 rfl 2 rfl ?_
  refine j_iload_n B dX10_allWays_3 rfl 3 rfl ?_
  obtain ⟨r1, hr1, h⟩ := h_bind h
  refine j_cVV (rest := []) B (tX10_findWays hW hr1) cls10 (wf_65 hW) jt_RX10_341 wi_X10_findWays ws_X10_findWays rfl (by decide) (Nat.le_refl _) (Nat.le_refl _) rfl (Nat.le_of_ble_eq_true rfl) dX10_allWays_4 ?_
  refine j_aload_n B dX10_allWays_7 rfl 0 rfl ?_
  refine gf_RX10_74 B rfl (wf_65 hW) (wf_182 hW) dX10_allWays_8 ?_
  refine j_iload_n B dX10_allWays_11 rfl 2 rfl ?_
  refine j_iconst B dX10_allWays_12 (v := 0) (by decide) ?_
  refine j_iconst B dX10_allWays_13 (v := 0) (by decide) ?_
  obtain ⟨r2, hr2, h⟩ := h_bind h
  refine j_cSI (rest := [.ref (G.1 + 84)]) B (tX10_wayAt hr2) jt_RX10_317 wst_X10_wayAt rfl (by decide) (Nat.le_refl _) (Nat.le_refl _) rfl (Nat.le_of_ble_eq_true rfl) dX10_allWays_14 ?_
  obtain ⟨b3, h⟩ := h_inb h
  refine j_lald B ((wf_86 hW)) b3 dX10_allWays_17 ?_
  obtain ⟨e1, e2⟩ := Prod.mk.inj (Option.some.inj h)
  obtain ⟨e2, e3⟩ := Prod.mk.inj e2
  subst e1
  subst e2
  subst e3
  exact j_lret B E rfl dX10_allWays_18 (Nat.le_refl _) (Nat.le_refl _) ⟨rfl, rfl, rfl, rfl⟩
def fX10_ways (x1 : Int32) (x2 : Int32) (vi0 : VI) (vl0 : VL) : Option (Int64 × VI × VL) := (fX10_isSill x1 vi0).bind fun r1 => if r1 = true then (fX10_areDays x2).bind fun r2 => if r2 = true then (fX10_allWays x1 x2 (-1) vi0 vl0).bind fun r3 => some (r3.1, r3.2.1, r3.2.2) else some ((-9223372036854775808), vi0, vl0) else some ((-9223372036854775808), vi0, vl0)
theorem tX10_ways {G : GT} {sv : SV} {vi0 : VI} {vl0 : VL} {ns : Nat} {x1 : Int32} {x2 : Int32} {r : Int64} {vi' : VI} {vl' : VL} (hW : WF sv ns) (h : fX10_ways x1 x2 vi0 vl0 = some (r, vi', vl')) : Call G mX10_ways 7 0 0 [.ref (G.1 + 63), .int x1, .int x2] sv vi0 vl0 (QJ r sv vi' vl') := by
  refine j_mk (by decide +kernel) (Nat.le_of_ble_eq_true rfl) (fun Γ B E => ?_)
  show J G Γ 0 0 0 [(0, .ref (G.1 + 63)), (1, .int x1), (2, .int x2)] [] sv vi0 vl0
  unfold fX10_ways at h
  refine j_aload_n B dX10_ways_0 rfl 0 rfl ?_
  refine j_iload_n B dX10_ways_1 rfl 1 rfl ?_
  obtain ⟨r1, hr1, h⟩ := h_bind h
  refine j_cVI (rest := []) B (tX10_isSill hW hr1) cls10 (wf_65 hW) jt_RX10_152 wi_X10_isSill ws_X10_isSill rfl (by decide) (Nat.le_refl _) (Nat.le_refl _) rfl (Nat.le_of_ble_eq_true rfl) dX10_ways_2 ?_
  refine j_if_eq (tgt := 25) B dX10_ways_5 (by decide) (fun c => ?_) (fun c => ?_)
  · replace h := h_neg (b2i_0 c) h
    refine j_ldc2 B wk_RX10_350 dX10_ways_25 ?_
    obtain ⟨e1, e2⟩ := Prod.mk.inj (Option.some.inj h)
    obtain ⟨e2, e3⟩ := Prod.mk.inj e2
    subst e1
    subst e2
    subst e3
    exact j_lret B E rfl dX10_ways_28 (Nat.le_refl _) (Nat.le_refl _) ⟨rfl, rfl, rfl, rfl⟩
  · replace h := h_pos (b2i_1 c) h
    refine j_iload_n B dX10_ways_8 rfl 2 rfl ?_
    obtain ⟨r2, hr2, h⟩ := h_bind h
    refine j_cSI (rest := []) B (tX10_areDays hr2) jt_RX10_344 wst_X10_areDays rfl (by decide) (Nat.le_refl _) (Nat.le_refl _) rfl (Nat.le_of_ble_eq_true rfl) dX10_ways_9 ?_
    refine j_if_eq (tgt := 25) B dX10_ways_12 (by decide) (fun c => ?_) (fun c => ?_)
    · replace h := h_neg (b2i_0 c) h
      refine j_ldc2 B wk_RX10_350 dX10_ways_25 ?_
      obtain ⟨e1, e2⟩ := Prod.mk.inj (Option.some.inj h)
      obtain ⟨e2, e3⟩ := Prod.mk.inj e2
      subst e1
      subst e2
      subst e3
      exact j_lret B E rfl dX10_ways_28 (Nat.le_refl _) (Nat.le_refl _) ⟨rfl, rfl, rfl, rfl⟩
    · replace h := h_pos (b2i_1 c) h
      refine j_aload_n B dX10_ways_15 rfl 0 rfl ?_
      refine j_iload_n B dX10_ways_16 rfl 1 rfl ?_
      refine j_iload_n B dX10_ways_17 rfl 2 rfl ?_
      refine j_iconst B dX10_ways_18 (v := (-1)) (by decide) ?_
      obtain ⟨r3, hr3, h⟩ := h_bind h
      refine j_cVJ (rest := []) B (tX10_allWays hW hr3) cls10 (wf_65 hW) jt_RX10_347 wi_X10_allWays ws_X10_allWays rfl (by decide) (Nat.le_refl _) (Nat.le_refl _) rfl (Nat.le_of_ble_eq_true rfl) dX10_ways_19 ?_
      refine j_goto (tgt := 28) B dX10_ways_22 (by decide) ?_
      obtain ⟨e1, e2⟩ := Prod.mk.inj (Option.some.inj h)
      obtain ⟨e2, e3⟩ := Prod.mk.inj e2
      subst e1
      subst e2
      subst e3
      exact j_lret B E rfl dX10_ways_28 (Nat.le_refl _) (Nat.le_refl _) ⟨rfl, rfl, rfl, rfl⟩
def fX10_first_155  (k50 : Int32 → Int32 → Int32 → Int32 → Int32 → VI → VL → Option (Int32 × VI × VL)) (x2 : Int32) (x3 : Int32) (x4 : Int32) (x5 : Int32) (x6 : Int32) (vi : VI) (vl : VL) : Option (Int32 × VI × VL) := k50 x2 x3 x4 x5 (x6 + 1) vi vl
theorem tX10_first_155 {G : GT} {sv : SV} {ns : Nat} {Γ : CT} {r : Int32} {vi' : VI} {vl' : VL} {k50 : Int32 → Int32 → Int32 → Int32 → Int32 → VI → VL → Option (Int32 × VI × VL)} (B : Base G Γ mX10_first 7 0 0) (E : Ends G Γ 0 0 (QI r sv vi' vl')) (hW : WF sv ns) (hk50 : ∀ (x2 : Int32) (x3 : Int32) (x4 : Int32) (x5 : Int32) (x6 : Int32) (vi : VI) (vl : VL), k50 x2 x3 x4 x5 x6 vi vl = some (r, vi', vl') → J G Γ 0 0 50 [(0, .ref (G.1 + 63)), (2, .int x2), (3, .int x3), (4, .int x4), (5, .int x5), (6, .int x6)] [] sv vi vl) : ∀ (x2 : Int32) (x3 : Int32) (x4 : Int32) (x5 : Int32) (x6 : Int32) (vi : VI) (vl : VL), fX10_first_155 k50 x2 x3 x4 x5 x6 vi vl = some (r, vi', vl') → J G Γ 0 0 155 [(0, .ref (G.1 + 63)), (2, .int x2), (3, .int x3), (4, .int x4), (5, .int x5), (6, .int x6)] [] sv vi vl := by
  intro x2 x3 x4 x5 x6 vi vl  h
  unfold fX10_first_155 at h
  refine j_iinc (v := (x6 + 1)) (L' := [(6, .int (x6 + 1)), (0, .ref (G.1 + 63)), (2, .int x2), (3, .int x3), (4, .int x4), (5, .int x5)]) B dX10_first_155 5 rfl rfl (by decide) rfl ?_
  refine j_goto (tgt := 50) B dX10_first_158 (by decide) ?_
  refine j_locals [1, 2, 3, 4, 5, 0] rfl ?_
  exact hk50 (x2) (x3) (x4) (x5) ((x6 + 1)) (vi) (vl)  h
def fX10_first_148  (k50 : Int32 → Int32 → Int32 → Int32 → Int32 → VI → VL → Option (Int32 × VI × VL)) (x2 : Int32) (x3 : Int32) (x4 : Int32) (x6 : Int32) (x8 : Int32) (vi : VI) (vl : VL) : Option (Int32 × VI × VL) := fX10_first_155 k50 x2 x3 (x4 + 1) x8 x6 vi vl
theorem tX10_first_148 {G : GT} {sv : SV} {ns : Nat} {Γ : CT} {r : Int32} {vi' : VI} {vl' : VL} {k50 : Int32 → Int32 → Int32 → Int32 → Int32 → VI → VL → Option (Int32 × VI × VL)} (B : Base G Γ mX10_first 7 0 0) (E : Ends G Γ 0 0 (QI r sv vi' vl')) (hW : WF sv ns) (hk50 : ∀ (x2 : Int32) (x3 : Int32) (x4 : Int32) (x5 : Int32) (x6 : Int32) (vi : VI) (vl : VL), k50 x2 x3 x4 x5 x6 vi vl = some (r, vi', vl') → J G Γ 0 0 50 [(0, .ref (G.1 + 63)), (2, .int x2), (3, .int x3), (4, .int x4), (5, .int x5), (6, .int x6)] [] sv vi vl) : ∀ (x2 : Int32) (x3 : Int32) (x4 : Int32) (x6 : Int32) (x8 : Int32) (vi : VI) (vl : VL), fX10_first_148 k50 x2 x3 x4 x6 x8 vi vl = some (r, vi', vl') → J G Γ 0 0 148 [(0, .ref (G.1 + 63)), (2, .int x2), (3, .int x3), (4, .int x4), (6, .int x6), (8, .int x8)] [] sv vi vl := by
  intro x2 x3 x4 x6 x8 vi vl  h
  unfold fX10_first_148 at h
  refine j_iinc (v := (x4 + 1)) (L' := [(4, .int (x4 + 1)), (0, .ref (G.1 + 63)), (2, .int x2), (3, .int x3), (6, .int x6), (8, .int x8)]) B dX10_first_148 3 rfl rfl (by decide) rfl ?_
  refine j_iload B dX10_first_151 5 rfl ?_
  refine j_istore (L' := [(5, .int x8), (4, .int (x4 + 1)), (0, .ref (G.1 + 63)), (2, .int x2), (3, .int x3), (6, .int x6), (8, .int x8)]) B dX10_first_153 (by decide) rfl ?_
  refine j_locals [2, 3, 4, 1, 0, 5] rfl ?_
  exact tX10_first_155 B E hW hk50 (x2) (x3) ((x4 + 1)) (x8) (x6) (vi) (vl)  h
def fX10_first_59  (k50 : Int32 → Int32 → Int32 → Int32 → Int32 → VI → VL → Option (Int32 × VI × VL)) : Nat → Int32 → Int32 → Int32 → Int32 → Int32 → Int32 → VI → VL → Option (Int32 × VI × VL)
  | 0, _, _, _, _, _, _, _, _ => none
  | F + 1, x2, x3, x4, x5, x6, x7, vi, vl => (fX10_waysBy (x2 - x6) x4 x5 x7 vi vl).bind fun r4 => if (lg_cmp r4 0) = 0 then fX10_first_59 k50 F x2 x3 x4 x5 x6 (x7 + 1) vi vl else if x6 = x3 then some (x7, vi, vl) else if inb ((60 * x4) + x7) 600 = true then if (vi 85 ((60 * x4) + x7).toNatClampNeg) = 0 then fX10_first_155 k50 x2 x3 x4 x5 x6 vi vl else if x4 ≤ 0 then fX10_first_148 k50 x2 x3 x4 x6 (vi 85 ((60 * x4) + x7).toNatClampNeg) vi vl else if inb (x4 - 1) 13 = true then if (vi 82 (x4 - 1).toNatClampNeg) = (x7 / 10) then fX10_first_155 k50 x2 x3 x4 (x5 + (vi 85 ((60 * x4) + x7).toNatClampNeg)) x6 vi vl else fX10_first_148 k50 x2 x3 x4 x6 (vi 85 ((60 * x4) + x7).toNatClampNeg) vi vl else none else none
theorem tX10_first_59 {G : GT} {sv : SV} {ns : Nat} {Γ : CT} {r : Int32} {vi' : VI} {vl' : VL} {k50 : Int32 → Int32 → Int32 → Int32 → Int32 → VI → VL → Option (Int32 × VI × VL)} (B : Base G Γ mX10_first 7 0 0) (E : Ends G Γ 0 0 (QI r sv vi' vl')) (hW : WF sv ns) (hk50 : ∀ (x2 : Int32) (x3 : Int32) (x4 : Int32) (x5 : Int32) (x6 : Int32) (vi : VI) (vl : VL), k50 x2 x3 x4 x5 x6 vi vl = some (r, vi', vl') → J G Γ 0 0 50 [(0, .ref (G.1 + 63)), (2, .int x2), (3, .int x3), (4, .int x4), (5, .int x5), (6, .int x6)] [] sv vi vl) : ∀ (F : Nat) (x2 : Int32) (x3 : Int32) (x4 : Int32) (x5 : Int32) (x6 : Int32) (x7 : Int32) (vi : VI) (vl : VL), fX10_first_59 k50 F x2 x3 x4 x5 x6 x7 vi vl = some (r, vi', vl') → J G Γ 0 0 59 [(0, .ref (G.1 + 63)), (2, .int x2), (3, .int x3), (4, .int x4), (5, .int x5), (6, .int x6), (7, .int x7)] [] sv vi vl := by
  intro F
  induction F with
  | zero =>
    intro x2 x3 x4 x5 x6 x7 vi vl  h
    cases (show (none : Option (Int32 × VI × VL)) = some (r, vi', vl') from h)
  | succ F ih =>
    intro x2 x3 x4 x5 x6 x7 vi vl  h
    rw [fX10_first_59] at h
    refine j_aload_n B dX10_first_59 rfl 0 rfl ?_
    refine j_iload_n B dX10_first_60 rfl 1 rfl ?_
    refine j_iload B dX10_first_61 5 rfl ?_
    refine j_isub B dX10_first_63 ?_
    refine j_iload B dX10_first_64 3 rfl ?_
    refine j_iload B dX10_first_66 4 rfl ?_
    refine j_iload B dX10_first_68 6 rfl ?_
    obtain ⟨r4, hr4, h⟩ := h_bind h
    refine j_cVJ (rest := []) B (tX10_waysBy hW hr4) cls10 (wf_65 hW) jt_RX10_337 wi_X10_waysBy ws_X10_waysBy rfl (by decide) (Nat.le_refl _) (Nat.le_refl _) rfl (Nat.le_of_ble_eq_true rfl) dX10_first_70 ?_
    refine j_lconst B dX10_first_73 (v := 0) rfl ?_
    refine j_lcmp B dX10_first_74 ?_
    refine j_if_ne (tgt := 84) B dX10_first_75 (by decide) (fun c => ?_) (fun c => ?_)
    · replace h := h_neg c h
      refine j_iload B dX10_first_84 5 rfl ?_
      refine j_iload_n B dX10_first_86 rfl 2 rfl ?_
      refine j_icmp_ne (tgt := 93) B dX10_first_87 (by decide) (fun c => ?_) (fun c => ?_)
      · replace h := h_neg c h
        refine j_aload_n B dX10_first_93 rfl 0 rfl ?_
        refine gf_RX10_78 B rfl (wf_65 hW) (wf_183 hW) dX10_first_94 ?_
        refine j_bipush B dX10_first_97 (v := 60) (by decide) ?_
        refine j_iload B dX10_first_99 3 rfl ?_
        refine j_imul B dX10_first_101 ?_
        refine j_iload B dX10_first_102 6 rfl ?_
        refine j_iadd B dX10_first_104 ?_
        obtain ⟨b5, h⟩ := h_inb h
        refine j_iald B ((wf_87 hW)) b5 dX10_first_105 ?_
        refine j_istore (L' := [(8, .int (vi 85 ((60 * x4) + x7).toNatClampNeg)), (0, .ref (G.1 + 63)), (2, .int x2), (3, .int x3), (4, .int x4), (5, .int x5), (6, .int x6), (7, .int x7)]) B dX10_first_106 (by decide) rfl ?_
        refine j_iload B dX10_first_108 0 rfl ?_
        refine j_if_ne (tgt := 116) B dX10_first_110 (by decide) (fun c => ?_) (fun c => ?_)
        · replace h := h_neg c h
          refine j_iload B dX10_first_116 4 rfl ?_
          refine j_if_le (tgt := 148) B dX10_first_118 (by decide) (fun c => ?_) (fun c => ?_)
          · replace h := h_pos c h
            refine j_locals [1, 2, 3, 4, 6, 0] rfl ?_
            exact tX10_first_148 B E hW hk50 (x2) (x3) (x4) (x6) ((vi 85 ((60 * x4) + x7).toNatClampNeg)) (vi) (vl)  h
          · replace h := h_neg c h
            refine j_aload_n B dX10_first_121 rfl 1 rfl ?_
            refine gf_RX10_68 B rfl (wf_65 hW) (wf_180 hW) dX10_first_122 ?_
            refine j_iload B dX10_first_125 4 rfl ?_
            refine j_iconst B dX10_first_127 (v := 1) (by decide) ?_
            refine j_isub B dX10_first_128 ?_
            obtain ⟨b6, h⟩ := h_inb h
            refine j_iald B ((wf_84 hW)) b6 dX10_first_129 ?_
            refine j_iload B dX10_first_130 7 rfl ?_
            refine j_bipush B dX10_first_132 (v := 10) (by decide) ?_
            refine j_idiv B dX10_first_134 (by decide) ?_
            refine j_icmp_ne (tgt := 148) B dX10_first_135 (by decide) (fun c => ?_) (fun c => ?_)
            · replace h := h_neg c h
              refine j_locals [1, 2, 3, 4, 6, 0] rfl ?_
              exact tX10_first_148 B E hW hk50 (x2) (x3) (x4) (x6) ((vi 85 ((60 * x4) + x7).toNatClampNeg)) (vi) (vl)  h
            · replace h := h_pos c h
              refine j_iload B dX10_first_138 5 rfl ?_
              refine j_iload B dX10_first_140 0 rfl ?_
              refine j_iadd B dX10_first_142 ?_
              refine j_istore (L' := [(5, .int (x5 + (vi 85 ((60 * x4) + x7).toNatClampNeg))), (8, .int (vi 85 ((60 * x4) + x7).toNatClampNeg)), (0, .ref (G.1 + 63)), (2, .int x2), (3, .int x3), (4, .int x4), (6, .int x6), (7, .int x7)]) B dX10_first_143 (by decide) rfl ?_
              refine j_goto (tgt := 155) B dX10_first_145 (by decide) ?_
              refine j_locals [2, 3, 4, 5, 0, 6] rfl ?_
              exact tX10_first_155 B E hW hk50 (x2) (x3) (x4) ((x5 + (vi 85 ((60 * x4) + x7).toNatClampNeg))) (x6) (vi) (vl)  h
        · replace h := h_pos c h
          refine j_goto (tgt := 155) B dX10_first_113 (by decide) ?_
          refine j_locals [1, 2, 3, 4, 5, 6] rfl ?_
          exact tX10_first_155 B E hW hk50 (x2) (x3) (x4) (x5) (x6) (vi) (vl)  h
      · replace h := h_pos c h
        refine j_iload B dX10_first_90 6 rfl ?_
        obtain ⟨e1, e2⟩ := Prod.mk.inj (Option.some.inj h)
        obtain ⟨e2, e3⟩ := Prod.mk.inj e2
        subst e1
        subst e2
        subst e3
        exact j_iret B E rfl dX10_first_92 (Nat.le_refl _) (Nat.le_refl _) ⟨rfl, rfl, rfl, rfl⟩
    · replace h := h_pos c h
      refine j_iinc (v := (x7 + 1)) (L' := [(7, .int (x7 + 1)), (0, .ref (G.1 + 63)), (2, .int x2), (3, .int x3), (4, .int x4), (5, .int x5), (6, .int x6)]) B dX10_first_78 6 rfl rfl (by decide) rfl ?_
      refine j_goto (tgt := 59) B dX10_first_81 (by decide) ?_
      refine j_locals [1, 2, 3, 4, 5, 6, 0] rfl ?_
      exact ih (x2) (x3) (x4) (x5) (x6) ((x7 + 1)) (vi) (vl)  h
def fX10_first_50  : Nat → Int32 → Int32 → Int32 → Int32 → Int32 → VI → VL → Option (Int32 × VI × VL)
  | 0, _, _, _, _, _, _, _ => none
  | F + 1, x2, x3, x4, x5, x6, vi, vl => if x3 < x6 then some ((-2), vi, vl) else fX10_first_59 (fX10_first_50  F) FU x2 x3 x4 x5 x6 0 vi vl
theorem tX10_first_50 {G : GT} {sv : SV} {ns : Nat} {Γ : CT} {r : Int32} {vi' : VI} {vl' : VL} (B : Base G Γ mX10_first 7 0 0) (E : Ends G Γ 0 0 (QI r sv vi' vl')) (hW : WF sv ns) : ∀ (F : Nat) (x2 : Int32) (x3 : Int32) (x4 : Int32) (x5 : Int32) (x6 : Int32) (vi : VI) (vl : VL), fX10_first_50  F x2 x3 x4 x5 x6 vi vl = some (r, vi', vl') → J G Γ 0 0 50 [(0, .ref (G.1 + 63)), (2, .int x2), (3, .int x3), (4, .int x4), (5, .int x5), (6, .int x6)] [] sv vi vl := by
  intro F
  induction F with
  | zero =>
    intro x2 x3 x4 x5 x6 vi vl  h
    cases (show (none : Option (Int32 × VI × VL)) = some (r, vi', vl') from h)
  | succ F ih =>
    intro x2 x3 x4 x5 x6 vi vl  h
    rw [fX10_first_50] at h
    refine j_iload B dX10_first_50 5 rfl ?_
    refine j_iload_n B dX10_first_52 rfl 2 rfl ?_
    refine j_icmp_gt (tgt := 161) B dX10_first_53 (by decide) (fun c => ?_) (fun c => ?_)
    · replace h := h_pos c h
      refine j_bipush B dX10_first_161 (v := (-2)) (by decide) ?_
      obtain ⟨e1, e2⟩ := Prod.mk.inj (Option.some.inj h)
      obtain ⟨e2, e3⟩ := Prod.mk.inj e2
      subst e1
      subst e2
      subst e3
      exact j_iret B E rfl dX10_first_163 (Nat.le_refl _) (Nat.le_refl _) ⟨rfl, rfl, rfl, rfl⟩
    · replace h := h_neg c h
      refine j_iconst B dX10_first_56 (v := 0) (by decide) ?_
      refine j_istore (L' := [(7, .int 0), (0, .ref (G.1 + 63)), (2, .int x2), (3, .int x3), (4, .int x4), (5, .int x5), (6, .int x6)]) B dX10_first_57 (by decide) rfl ?_
      refine j_locals [1, 2, 3, 4, 5, 6, 0] rfl ?_
      exact tX10_first_59 B E hW ih FU (x2) (x3) (x4) (x5) (x6) (0) (vi) (vl)  h
def fX10_first (x1 : Int32) (x2 : Int32) (x3 : Int32) (vi0 : VI) (vl0 : VL) : Option (Int32 × VI × VL) := (fX10_isSill x1 vi0).bind fun r1 => if r1 = true then (fX10_areDays x2).bind fun r2 => if r2 = true then if 0 ≤ x3 then (fX10_allWays x1 x2 (-1) vi0 vl0).bind fun r3 => if (lg_cmp r3.1 0) = 0 then some ((-2), r3.2.1, r3.2.2) else if x3 < x2 then fX10_first_50  FU x2 x3 0 0 0 r3.2.1 r3.2.2 else some ((-2), r3.2.1, r3.2.2) else some ((-1), vi0, vl0) else some ((-1), vi0, vl0) else some ((-1), vi0, vl0)
theorem tX10_first {G : GT} {sv : SV} {vi0 : VI} {vl0 : VL} {ns : Nat} {x1 : Int32} {x2 : Int32} {x3 : Int32} {r : Int32} {vi' : VI} {vl' : VL} (hW : WF sv ns) (h : fX10_first x1 x2 x3 vi0 vl0 = some (r, vi', vl')) : Call G mX10_first 7 0 0 [.ref (G.1 + 63), .int x1, .int x2, .int x3] sv vi0 vl0 (QI r sv vi' vl') := by
  refine j_mk (by decide +kernel) (Nat.le_of_ble_eq_true rfl) (fun Γ B E => ?_)
  show J G Γ 0 0 0 [(0, .ref (G.1 + 63)), (1, .int x1), (2, .int x2), (3, .int x3)] [] sv vi0 vl0
  unfold fX10_first at h
  refine j_aload_n B dX10_first_0 rfl 0 rfl ?_
  refine j_iload_n B dX10_first_1 rfl 1 rfl ?_
  obtain ⟨r1, hr1, h⟩ := h_bind h
  refine j_cVI (rest := []) B (tX10_isSill hW hr1) cls10 (wf_65 hW) jt_RX10_152 wi_X10_isSill ws_X10_isSill rfl (by decide) (Nat.le_refl _) (Nat.le_refl _) rfl (Nat.le_of_ble_eq_true rfl) dX10_first_2 ?_
  refine j_if_eq (tgt := 19) B dX10_first_5 (by decide) (fun c => ?_) (fun c => ?_)
  · replace h := h_neg (b2i_0 c) h
    refine j_iconst B dX10_first_19 (v := (-1)) (by decide) ?_
    obtain ⟨e1, e2⟩ := Prod.mk.inj (Option.some.inj h)
    obtain ⟨e2, e3⟩ := Prod.mk.inj e2
    subst e1
    subst e2
    subst e3
    exact j_iret B E rfl dX10_first_20 (Nat.le_refl _) (Nat.le_refl _) ⟨rfl, rfl, rfl, rfl⟩
  · replace h := h_pos (b2i_1 c) h
    refine j_iload_n B dX10_first_8 rfl 2 rfl ?_
    obtain ⟨r2, hr2, h⟩ := h_bind h
    refine j_cSI (rest := []) B (tX10_areDays hr2) jt_RX10_344 wst_X10_areDays rfl (by decide) (Nat.le_refl _) (Nat.le_refl _) rfl (Nat.le_of_ble_eq_true rfl) dX10_first_9 ?_
    refine j_if_eq (tgt := 19) B dX10_first_12 (by decide) (fun c => ?_) (fun c => ?_)
    · replace h := h_neg (b2i_0 c) h
      refine j_iconst B dX10_first_19 (v := (-1)) (by decide) ?_
      obtain ⟨e1, e2⟩ := Prod.mk.inj (Option.some.inj h)
      obtain ⟨e2, e3⟩ := Prod.mk.inj e2
      subst e1
      subst e2
      subst e3
      exact j_iret B E rfl dX10_first_20 (Nat.le_refl _) (Nat.le_refl _) ⟨rfl, rfl, rfl, rfl⟩
    · replace h := h_pos (b2i_1 c) h
      refine j_iload_n B dX10_first_15 rfl 3 rfl ?_
      refine j_if_ge (tgt := 21) B dX10_first_16 (by decide) (fun c => ?_) (fun c => ?_)
      · replace h := h_pos c h
        refine j_aload_n B dX10_first_21 rfl 0 rfl ?_
        refine j_iload_n B dX10_first_22 rfl 1 rfl ?_
        refine j_iload_n B dX10_first_23 rfl 2 rfl ?_
        refine j_iconst B dX10_first_24 (v := (-1)) (by decide) ?_
        obtain ⟨r3, hr3, h⟩ := h_bind h
        refine j_cVJ (rest := []) B (tX10_allWays hW hr3) cls10 (wf_65 hW) jt_RX10_347 wi_X10_allWays ws_X10_allWays rfl (by decide) (Nat.le_refl _) (Nat.le_refl _) rfl (Nat.le_of_ble_eq_true rfl) dX10_first_25 ?_
        refine j_lconst B dX10_first_28 (v := 0) rfl ?_
        refine j_lcmp B dX10_first_29 ?_
        refine j_if_eq (tgt := 38) B dX10_first_30 (by decide) (fun c => ?_) (fun c => ?_)
        · replace h := h_pos c h
          refine j_bipush B dX10_first_38 (v := (-2)) (by decide) ?_
          obtain ⟨e1, e2⟩ := Prod.mk.inj (Option.some.inj h)
          obtain ⟨e2, e3⟩ := Prod.mk.inj e2
          subst e1
          subst e2
          subst e3
          exact j_iret B E rfl dX10_first_40 (Nat.le_refl _) (Nat.le_refl _) ⟨rfl, rfl, rfl, rfl⟩
        · replace h := h_neg c h
          refine j_iload_n B dX10_first_33 rfl 3 rfl ?_
          refine j_iload_n B dX10_first_34 rfl 2 rfl ?_
          refine j_icmp_lt (tgt := 41) B dX10_first_35 (by decide) (fun c => ?_) (fun c => ?_)
          · replace h := h_pos c h
            refine j_iconst B dX10_first_41 (v := 0) (by decide) ?_
            refine j_istore (L' := [(4, .int 0), (0, .ref (G.1 + 63)), (1, .int x1), (2, .int x2), (3, .int x3)]) B dX10_first_42 (by decide) rfl ?_
            refine j_iconst B dX10_first_44 (v := 0) (by decide) ?_
            refine j_istore (L' := [(5, .int 0), (4, .int 0), (0, .ref (G.1 + 63)), (1, .int x1), (2, .int x2), (3, .int x3)]) B dX10_first_45 (by decide) rfl ?_
            refine j_iconst B dX10_first_47 (v := 0) (by decide) ?_
            refine j_istore (L' := [(6, .int 0), (5, .int 0), (4, .int 0), (0, .ref (G.1 + 63)), (1, .int x1), (2, .int x2), (3, .int x3)]) B dX10_first_48 (by decide) rfl ?_
            refine j_locals [3, 5, 6, 2, 1, 0] rfl ?_
            exact tX10_first_50 B E hW FU (x2) (x3) (0) (0) (0) (r3.2.1) (r3.2.2)  h
          · replace h := h_neg c h
            refine j_bipush B dX10_first_38 (v := (-2)) (by decide) ?_
            obtain ⟨e1, e2⟩ := Prod.mk.inj (Option.some.inj h)
            obtain ⟨e2, e3⟩ := Prod.mk.inj e2
            subst e1
            subst e2
            subst e3
            exact j_iret B E rfl dX10_first_40 (Nat.le_refl _) (Nat.le_refl _) ⟨rfl, rfl, rfl, rfl⟩
      · replace h := h_neg c h
        refine j_iconst B dX10_first_19 (v := (-1)) (by decide) ?_
        obtain ⟨e1, e2⟩ := Prod.mk.inj (Option.some.inj h)
        obtain ⟨e2, e3⟩ := Prod.mk.inj e2
        subst e1
        subst e2
        subst e3
        exact j_iret B E rfl dX10_first_20 (Nat.le_refl _) (Nat.le_refl _) ⟨rfl, rfl, rfl, rfl⟩
def fX10_least_12  : Nat → Int32 → Int32 → VI → VL → Option (Int32 × VI × VL)
  | 0, _, _, _, _ => none
  | F + 1, x1, x2, vi, vl => if 9 < x2 then some ((-2), vi, vl) else (fX10_allWays x1 x2 (-1) vi vl).bind fun r2 => if (lg_cmp r2.1 0) ≤ 0 then fX10_least_12  F x1 (x2 + 1) r2.2.1 r2.2.2 else some (x2, r2.2.1, r2.2.2)
theorem tX10_least_12 {G : GT} {sv : SV} {ns : Nat} {Γ : CT} {r : Int32} {vi' : VI} {vl' : VL} (B : Base G Γ mX10_least 7 0 0) (E : Ends G Γ 0 0 (QI r sv vi' vl')) (hW : WF sv ns) : ∀ (F : Nat) (x1 : Int32) (x2 : Int32) (vi : VI) (vl : VL), fX10_least_12  F x1 x2 vi vl = some (r, vi', vl') → J G Γ 0 0 12 [(0, .ref (G.1 + 63)), (1, .int x1), (2, .int x2)] [] sv vi vl := by
  intro F
  induction F with
  | zero =>
    intro x1 x2 vi vl  h
    cases (show (none : Option (Int32 × VI × VL)) = some (r, vi', vl') from h)
  | succ F ih =>
    intro x1 x2 vi vl  h
    rw [fX10_least_12] at h
    refine j_iload_n B dX10_least_12 rfl 2 rfl ?_
    refine j_bipush B dX10_least_13 (v := 9) (by decide) ?_
    refine j_icmp_gt (tgt := 38) B dX10_least_15 (by decide) (fun c => ?_) (fun c => ?_)
    · replace h := h_pos c h
      refine j_bipush B dX10_least_38 (v := (-2)) (by decide) ?_
      obtain ⟨e1, e2⟩ := Prod.mk.inj (Option.some.inj h)
      obtain ⟨e2, e3⟩ := Prod.mk.inj e2
      subst e1
      subst e2
      subst e3
      exact j_iret B E rfl dX10_least_40 (Nat.le_refl _) (Nat.le_refl _) ⟨rfl, rfl, rfl, rfl⟩
    · replace h := h_neg c h
      refine j_aload_n B dX10_least_18 rfl 0 rfl ?_
      refine j_iload_n B dX10_least_19 rfl 1 rfl ?_
      refine j_iload_n B dX10_least_20 rfl 2 rfl ?_
      refine j_iconst B dX10_least_21 (v := (-1)) (by decide) ?_
      obtain ⟨r2, hr2, h⟩ := h_bind h
      refine j_cVJ (rest := []) B (tX10_allWays hW hr2) cls10 (wf_65 hW) jt_RX10_347 wi_X10_allWays ws_X10_allWays rfl (by decide) (Nat.le_refl _) (Nat.le_refl _) rfl (Nat.le_of_ble_eq_true rfl) dX10_least_22 ?_
      refine j_lconst B dX10_least_25 (v := 0) rfl ?_
      refine j_lcmp B dX10_least_26 ?_
      refine j_if_le (tgt := 32) B dX10_least_27 (by decide) (fun c => ?_) (fun c => ?_)
      · replace h := h_pos c h
        refine j_iinc (v := (x2 + 1)) (L' := [(2, .int (x2 + 1)), (0, .ref (G.1 + 63)), (1, .int x1)]) B dX10_least_32 2 rfl rfl (by decide) rfl ?_
        refine j_goto (tgt := 12) B dX10_least_35 (by decide) ?_
        refine j_locals [1, 2, 0] rfl ?_
        exact ih (x1) ((x2 + 1)) (r2.2.1) (r2.2.2)  h
      · replace h := h_neg c h
        refine j_iload_n B dX10_least_30 rfl 2 rfl ?_
        obtain ⟨e1, e2⟩ := Prod.mk.inj (Option.some.inj h)
        obtain ⟨e2, e3⟩ := Prod.mk.inj e2
        subst e1
        subst e2
        subst e3
        exact j_iret B E rfl dX10_least_31 (Nat.le_refl _) (Nat.le_refl _) ⟨rfl, rfl, rfl, rfl⟩
def fX10_least (x1 : Int32) (vi0 : VI) (vl0 : VL) : Option (Int32 × VI × VL) := (fX10_isSill x1 vi0).bind fun r1 => if r1 = true then fX10_least_12  FU x1 0 vi0 vl0 else some ((-1), vi0, vl0)
theorem tX10_least {G : GT} {sv : SV} {vi0 : VI} {vl0 : VL} {ns : Nat} {x1 : Int32} {r : Int32} {vi' : VI} {vl' : VL} (hW : WF sv ns) (h : fX10_least x1 vi0 vl0 = some (r, vi', vl')) : Call G mX10_least 7 0 0 [.ref (G.1 + 63), .int x1] sv vi0 vl0 (QI r sv vi' vl') := by
  refine j_mk (by decide +kernel) (Nat.le_of_ble_eq_true rfl) (fun Γ B E => ?_)
  show J G Γ 0 0 0 [(0, .ref (G.1 + 63)), (1, .int x1)] [] sv vi0 vl0
  unfold fX10_least at h
  refine j_aload_n B dX10_least_0 rfl 0 rfl ?_
  refine j_iload_n B dX10_least_1 rfl 1 rfl ?_
  obtain ⟨r1, hr1, h⟩ := h_bind h
  refine j_cVI (rest := []) B (tX10_isSill hW hr1) cls10 (wf_65 hW) jt_RX10_152 wi_X10_isSill ws_X10_isSill rfl (by decide) (Nat.le_refl _) (Nat.le_refl _) rfl (Nat.le_of_ble_eq_true rfl) dX10_least_2 ?_
  refine j_if_ne (tgt := 10) B dX10_least_5 (by decide) (fun c => ?_) (fun c => ?_)
  · replace h := h_pos (b2i_1 c) h
    refine j_iconst B dX10_least_10 (v := 0) (by decide) ?_
    refine j_istore_n (L' := [(2, .int 0), (0, .ref (G.1 + 63)), (1, .int x1)]) B dX10_least_11 rfl (by decide) rfl ?_
    refine j_locals [1, 2, 0] rfl ?_
    exact tX10_least_12 B E hW FU (x1) (0) (vi0) (vl0)  h
  · replace h := h_neg (b2i_0 c) h
    refine j_iconst B dX10_least_8 (v := (-1)) (by decide) ?_
    obtain ⟨e1, e2⟩ := Prod.mk.inj (Option.some.inj h)
    obtain ⟨e2, e3⟩ := Prod.mk.inj e2
    subst e1
    subst e2
    subst e3
    exact j_iret B E rfl dX10_least_9 (Nat.le_refl _) (Nat.le_refl _) ⟨rfl, rfl, rfl, rfl⟩
def fX10_certain_63  (k36 : Int32 → Int32 → Int32 → Int32 → VI → VL → Option (Int32 × VI × VL)) (x1 : Int32) (x2 : Int32) (x3 : Int32) (x4 : Int32) (vi : VI) (vl : VL) : Option (Int32 × VI × VL) := k36 x1 x2 x3 (x4 + 1) vi vl
theorem tX10_certain_63 {G : GT} {sv : SV} {ns : Nat} {Γ : CT} {r : Int32} {vi' : VI} {vl' : VL} {k36 : Int32 → Int32 → Int32 → Int32 → VI → VL → Option (Int32 × VI × VL)} (B : Base G Γ mX10_certain 7 0 0) (E : Ends G Γ 0 0 (QI r sv vi' vl')) (hW : WF sv ns) (hk36 : ∀ (x1 : Int32) (x2 : Int32) (x3 : Int32) (x4 : Int32) (vi : VI) (vl : VL), k36 x1 x2 x3 x4 vi vl = some (r, vi', vl') → J G Γ 0 0 36 [(0, .ref (G.1 + 63)), (1, .int x1), (2, .int x2), (3, .int x3), (4, .int x4)] [] sv vi vl) : ∀ (x1 : Int32) (x2 : Int32) (x3 : Int32) (x4 : Int32) (vi : VI) (vl : VL), fX10_certain_63 k36 x1 x2 x3 x4 vi vl = some (r, vi', vl') → J G Γ 0 0 63 [(0, .ref (G.1 + 63)), (1, .int x1), (2, .int x2), (3, .int x3), (4, .int x4)] [] sv vi vl := by
  intro x1 x2 x3 x4 vi vl  h
  unfold fX10_certain_63 at h
  refine j_iinc (v := (x4 + 1)) (L' := [(4, .int (x4 + 1)), (0, .ref (G.1 + 63)), (1, .int x1), (2, .int x2), (3, .int x3)]) B dX10_certain_63 4 rfl rfl (by decide) rfl ?_
  refine j_goto (tgt := 36) B dX10_certain_66 (by decide) ?_
  refine j_locals [1, 2, 3, 4, 0] rfl ?_
  exact hk36 (x1) (x2) (x3) ((x4 + 1)) (vi) (vl)  h
def fX10_certain_36  : Nat → Int32 → Int32 → Int32 → Int32 → VI → VL → Option (Int32 × VI × VL)
  | 0, _, _, _, _, _, _ => none
  | F + 1, x1, x2, x3, x4, vi, vl => if 6 ≤ x4 then some (x3, vi, vl) else (fX10_allWays x1 x2 x4 vi vl).bind fun r4 => if (lg_cmp r4.1 0) = 0 then fX10_certain_63 (fX10_certain_36  F) x1 x2 (x3 ||| ((1 : Int32) <<< (x4 &&& 31))) x4 r4.2.1 r4.2.2 else fX10_certain_63 (fX10_certain_36  F) x1 x2 x3 x4 r4.2.1 r4.2.2
theorem tX10_certain_36 {G : GT} {sv : SV} {ns : Nat} {Γ : CT} {r : Int32} {vi' : VI} {vl' : VL} (B : Base G Γ mX10_certain 7 0 0) (E : Ends G Γ 0 0 (QI r sv vi' vl')) (hW : WF sv ns) : ∀ (F : Nat) (x1 : Int32) (x2 : Int32) (x3 : Int32) (x4 : Int32) (vi : VI) (vl : VL), fX10_certain_36  F x1 x2 x3 x4 vi vl = some (r, vi', vl') → J G Γ 0 0 36 [(0, .ref (G.1 + 63)), (1, .int x1), (2, .int x2), (3, .int x3), (4, .int x4)] [] sv vi vl := by
  intro F
  induction F with
  | zero =>
    intro x1 x2 x3 x4 vi vl  h
    cases (show (none : Option (Int32 × VI × VL)) = some (r, vi', vl') from h)
  | succ F ih =>
    intro x1 x2 x3 x4 vi vl  h
    rw [fX10_certain_36] at h
    refine j_iload B dX10_certain_36 4 rfl ?_
    refine j_bipush B dX10_certain_38 (v := 6) (by decide) ?_
    refine j_icmp_ge (tgt := 69) B dX10_certain_40 (by decide) (fun c => ?_) (fun c => ?_)
    · replace h := h_pos c h
      refine j_iload_n B dX10_certain_69 rfl 3 rfl ?_
      obtain ⟨e1, e2⟩ := Prod.mk.inj (Option.some.inj h)
      obtain ⟨e2, e3⟩ := Prod.mk.inj e2
      subst e1
      subst e2
      subst e3
      exact j_iret B E rfl dX10_certain_70 (Nat.le_refl _) (Nat.le_refl _) ⟨rfl, rfl, rfl, rfl⟩
    · replace h := h_neg c h
      refine j_aload_n B dX10_certain_43 rfl 0 rfl ?_
      refine j_iload_n B dX10_certain_44 rfl 1 rfl ?_
      refine j_iload_n B dX10_certain_45 rfl 2 rfl ?_
      refine j_iload B dX10_certain_46 4 rfl ?_
      obtain ⟨r4, hr4, h⟩ := h_bind h
      refine j_cVJ (rest := []) B (tX10_allWays hW hr4) cls10 (wf_65 hW) jt_RX10_347 wi_X10_allWays ws_X10_allWays rfl (by decide) (Nat.le_refl _) (Nat.le_refl _) rfl (Nat.le_of_ble_eq_true rfl) dX10_certain_48 ?_
      refine j_lconst B dX10_certain_51 (v := 0) rfl ?_
      refine j_lcmp B dX10_certain_52 ?_
      refine j_if_ne (tgt := 63) B dX10_certain_53 (by decide) (fun c => ?_) (fun c => ?_)
      · replace h := h_neg c h
        refine j_locals [0, 1, 2, 3, 4] rfl ?_
        exact tX10_certain_63 B E hW ih (x1) (x2) (x3) (x4) (r4.2.1) (r4.2.2)  h
      · replace h := h_pos c h
        refine j_iload_n B dX10_certain_56 rfl 3 rfl ?_
        refine j_iconst B dX10_certain_57 (v := 1) (by decide) ?_
        refine j_iload B dX10_certain_58 4 rfl ?_
        refine j_ishl B dX10_certain_60 ?_
        refine j_ior B dX10_certain_61 ?_
        refine j_istore_n (L' := [(3, .int (x3 ||| ((1 : Int32) <<< (x4 &&& 31)))), (0, .ref (G.1 + 63)), (1, .int x1), (2, .int x2), (4, .int x4)]) B dX10_certain_62 rfl (by decide) rfl ?_
        refine j_locals [1, 2, 3, 0, 4] rfl ?_
        exact tX10_certain_63 B E hW ih (x1) (x2) ((x3 ||| ((1 : Int32) <<< (x4 &&& 31)))) (x4) (r4.2.1) (r4.2.2)  h
def fX10_certain (x1 : Int32) (x2 : Int32) (vi0 : VI) (vl0 : VL) : Option (Int32 × VI × VL) := (fX10_isSill x1 vi0).bind fun r1 => if r1 = true then (fX10_areDays x2).bind fun r2 => if r2 = true then (fX10_allWays x1 x2 (-1) vi0 vl0).bind fun r3 => if (lg_cmp r3.1 0) = 0 then some (0, r3.2.1, r3.2.2) else fX10_certain_36  FU x1 x2 0 0 r3.2.1 r3.2.2 else some ((-1), vi0, vl0) else some ((-1), vi0, vl0)
theorem tX10_certain {G : GT} {sv : SV} {vi0 : VI} {vl0 : VL} {ns : Nat} {x1 : Int32} {x2 : Int32} {r : Int32} {vi' : VI} {vl' : VL} (hW : WF sv ns) (h : fX10_certain x1 x2 vi0 vl0 = some (r, vi', vl')) : Call G mX10_certain 7 0 0 [.ref (G.1 + 63), .int x1, .int x2] sv vi0 vl0 (QI r sv vi' vl') := by
  refine j_mk (by decide +kernel) (Nat.le_of_ble_eq_true rfl) (fun Γ B E => ?_)
  show J G Γ 0 0 0 [(0, .ref (G.1 + 63)), (1, .int x1), (2, .int x2)] [] sv vi0 vl0
  unfold fX10_certain at h
  refine j_aload_n B dX10_certain_0 rfl 0 rfl ?_
  refine j_iload_n B dX10_certain_1 rfl 1 rfl ?_
  obtain ⟨r1, hr1, h⟩ := h_bind h
  refine j_cVI (rest := []) B (tX10_isSill hW hr1) cls10 (wf_65 hW) jt_RX10_152 wi_X10_isSill ws_X10_isSill rfl (by decide) (Nat.le_refl _) (Nat.le_refl _) rfl (Nat.le_of_ble_eq_true rfl) dX10_certain_2 ?_
  refine j_if_eq (tgt := 15) B dX10_certain_5 (by decide) (fun c => ?_) (fun c => ?_)
  · replace h := h_neg (b2i_0 c) h
    refine j_iconst B dX10_certain_15 (v := (-1)) (by decide) ?_
    obtain ⟨e1, e2⟩ := Prod.mk.inj (Option.some.inj h)
    obtain ⟨e2, e3⟩ := Prod.mk.inj e2
    subst e1
    subst e2
    subst e3
    exact j_iret B E rfl dX10_certain_16 (Nat.le_refl _) (Nat.le_refl _) ⟨rfl, rfl, rfl, rfl⟩
  · replace h := h_pos (b2i_1 c) h
    refine j_iload_n B dX10_certain_8 rfl 2 rfl ?_
    obtain ⟨r2, hr2, h⟩ := h_bind h
    refine j_cSI (rest := []) B (tX10_areDays hr2) jt_RX10_344 wst_X10_areDays rfl (by decide) (Nat.le_refl _) (Nat.le_refl _) rfl (Nat.le_of_ble_eq_true rfl) dX10_certain_9 ?_
    refine j_if_ne (tgt := 17) B dX10_certain_12 (by decide) (fun c => ?_) (fun c => ?_)
    · replace h := h_pos (b2i_1 c) h
      refine j_aload_n B dX10_certain_17 rfl 0 rfl ?_
      refine j_iload_n B dX10_certain_18 rfl 1 rfl ?_
      refine j_iload_n B dX10_certain_19 rfl 2 rfl ?_
      refine j_iconst B dX10_certain_20 (v := (-1)) (by decide) ?_
      obtain ⟨r3, hr3, h⟩ := h_bind h
      refine j_cVJ (rest := []) B (tX10_allWays hW hr3) cls10 (wf_65 hW) jt_RX10_347 wi_X10_allWays ws_X10_allWays rfl (by decide) (Nat.le_refl _) (Nat.le_refl _) rfl (Nat.le_of_ble_eq_true rfl) dX10_certain_21 ?_
      refine j_lconst B dX10_certain_24 (v := 0) rfl ?_
      refine j_lcmp B dX10_certain_25 ?_
      refine j_if_ne (tgt := 31) B dX10_certain_26 (by decide) (fun c => ?_) (fun c => ?_)
      · replace h := h_neg c h
        refine j_iconst B dX10_certain_31 (v := 0) (by decide) ?_
        refine j_istore_n (L' := [(3, .int 0), (0, .ref (G.1 + 63)), (1, .int x1), (2, .int x2)]) B dX10_certain_32 rfl (by decide) rfl ?_
        refine j_iconst B dX10_certain_33 (v := 0) (by decide) ?_
        refine j_istore (L' := [(4, .int 0), (3, .int 0), (0, .ref (G.1 + 63)), (1, .int x1), (2, .int x2)]) B dX10_certain_34 (by decide) rfl ?_
        refine j_locals [2, 3, 4, 1, 0] rfl ?_
        exact tX10_certain_36 B E hW FU (x1) (x2) (0) (0) (r3.2.1) (r3.2.2)  h
      · replace h := h_pos c h
        refine j_iconst B dX10_certain_29 (v := 0) (by decide) ?_
        obtain ⟨e1, e2⟩ := Prod.mk.inj (Option.some.inj h)
        obtain ⟨e2, e3⟩ := Prod.mk.inj e2
        subst e1
        subst e2
        subst e3
        exact j_iret B E rfl dX10_certain_30 (Nat.le_refl _) (Nat.le_refl _) ⟨rfl, rfl, rfl, rfl⟩
    · replace h := h_neg (b2i_0 c) h
      refine j_iconst B dX10_certain_15 (v := (-1)) (by decide) ?_
      obtain ⟨e1, e2⟩ := Prod.mk.inj (Option.some.inj h)
      obtain ⟨e2, e3⟩ := Prod.mk.inj e2
      subst e1
      subst e2
      subst e3
      exact j_iret B E rfl dX10_certain_16 (Nat.le_refl _) (Nat.le_refl _) ⟨rfl, rfl, rfl, rfl⟩
def fX10_areSills (x1 : Int32) (vi0 : VI) : Option (Bool) := if x1 < 0 then some (false) else (fX10_isSill (x1 / 10) vi0).bind fun r1 => if r1 = true then (fX10_isSill (x1 - x1 / 10 * 10) vi0).bind fun r2 => if r2 = true then some (true) else some (false) else some (false)
theorem tX10_areSills {G : GT} {sv : SV} {vi0 : VI} {vl0 : VL} {ns : Nat} {x1 : Int32} {r : Bool} (hW : WF sv ns) (h : fX10_areSills x1 vi0 = some (r)) : Call G mX10_areSills 2 0 0 [.ref (G.1 + 63), .int x1] sv vi0 vl0 (QI (b2i r) sv vi0 vl0) := by
  refine j_mk (by decide +kernel) (Nat.le_of_ble_eq_true rfl) (fun Γ B E => ?_)
  show J G Γ 0 0 0 [(0, .ref (G.1 + 63)), (1, .int x1)] [] sv vi0 vl0
  unfold fX10_areSills at h
  refine j_iload_n B dX10_areSills_0 rfl 1 rfl ?_
  refine j_if_lt (tgt := 30) B dX10_areSills_1 (by decide) (fun c => ?_) (fun c => ?_)
  · replace h := h_pos c h
    refine j_iconst B dX10_areSills_30 (v := 0) (by decide) ?_
    have e1 := Option.some.inj h
    subst e1
    exact j_zret B E rfl (Or.inl rfl) dX10_areSills_31 (Nat.le_refl _) (Nat.le_refl _) ⟨rfl, rfl, rfl, rfl⟩
  · replace h := h_neg c h
    refine j_aload_n B dX10_areSills_4 rfl 0 rfl ?_
    refine j_iload_n B dX10_areSills_5 rfl 1 rfl ?_
    refine j_bipush B dX10_areSills_6 (v := 10) (by decide) ?_
    refine j_idiv B dX10_areSills_8 (by decide) ?_
    obtain ⟨r1, hr1, h⟩ := h_bind h
    refine j_cVI (rest := []) B (tX10_isSill hW hr1) cls10 (wf_65 hW) jt_RX10_152 wi_X10_isSill ws_X10_isSill rfl (by decide) (Nat.le_refl _) (Nat.le_refl _) rfl (Nat.le_of_ble_eq_true rfl) dX10_areSills_9 ?_
    refine j_if_eq (tgt := 30) B dX10_areSills_12 (by decide) (fun c => ?_) (fun c => ?_)
    · replace h := h_neg (b2i_0 c) h
      refine j_iconst B dX10_areSills_30 (v := 0) (by decide) ?_
      have e1 := Option.some.inj h
      subst e1
      exact j_zret B E rfl (Or.inl rfl) dX10_areSills_31 (Nat.le_refl _) (Nat.le_refl _) ⟨rfl, rfl, rfl, rfl⟩
    · replace h := h_pos (b2i_1 c) h
      refine j_aload_n B dX10_areSills_15 rfl 0 rfl ?_
      refine j_iload_n B dX10_areSills_16 rfl 1 rfl ?_
      refine j_bipush B dX10_areSills_17 (v := 10) (by decide) ?_
      refine j_irem B dX10_areSills_19 (by decide) ?_
      obtain ⟨r2, hr2, h⟩ := h_bind h
      refine j_cVI (rest := []) B (tX10_isSill hW hr2) cls10 (wf_65 hW) jt_RX10_152 wi_X10_isSill ws_X10_isSill rfl (by decide) (Nat.le_refl _) (Nat.le_refl _) rfl (Nat.le_of_ble_eq_true rfl) dX10_areSills_20 ?_
      refine j_if_eq (tgt := 30) B dX10_areSills_23 (by decide) (fun c => ?_) (fun c => ?_)
      · replace h := h_neg (b2i_0 c) h
        refine j_iconst B dX10_areSills_30 (v := 0) (by decide) ?_
        have e1 := Option.some.inj h
        subst e1
        exact j_zret B E rfl (Or.inl rfl) dX10_areSills_31 (Nat.le_refl _) (Nat.le_refl _) ⟨rfl, rfl, rfl, rfl⟩
      · replace h := h_pos (b2i_1 c) h
        refine j_iconst B dX10_areSills_26 (v := 1) (by decide) ?_
        refine j_goto (tgt := 31) B dX10_areSills_27 (by decide) ?_
        have e1 := Option.some.inj h
        subst e1
        exact j_zret B E rfl (Or.inr rfl) dX10_areSills_31 (Nat.le_refl _) (Nat.le_refl _) ⟨rfl, rfl, rfl, rfl⟩
def fX10_whomAt (x1 : Int32) (x2 : Int32) (vi0 : VI) : Option (Int32) := if inb ((12 * x1) + x2) 60 = true then some ((vi0 68 ((12 * x1) + x2).toNatClampNeg)) else none
theorem tX10_whomAt {G : GT} {sv : SV} {vi0 : VI} {vl0 : VL} {ns : Nat} {x1 : Int32} {x2 : Int32} {r : Int32} (hW : WF sv ns) (h : fX10_whomAt x1 x2 vi0 = some (r)) : Call G mX10_whomAt 0 0 0 [.ref (G.1 + 63), .int x1, .int x2] sv vi0 vl0 (QI r sv vi0 vl0) := by
  refine j_mk (by decide +kernel) (Nat.le_of_ble_eq_true rfl) (fun Γ B E => ?_)
  show J G Γ 0 0 0 [(0, .ref (G.1 + 63)), (1, .int x1), (2, .int x2)] [] sv vi0 vl0
  unfold fX10_whomAt at h
  refine j_aload_n B dX10_whomAt_0 rfl 0 rfl ?_
  refine gf_RX10_24 B rfl (wf_65 hW) (wf_166 hW) dX10_whomAt_1 ?_
  refine j_bipush B dX10_whomAt_4 (v := 12) (by decide) ?_
  refine j_iload_n B dX10_whomAt_6 rfl 1 rfl ?_
  refine j_imul B dX10_whomAt_7 ?_
  refine j_iload_n B dX10_whomAt_8 rfl 2 rfl ?_
  refine j_iadd B dX10_whomAt_9 ?_
  obtain ⟨b1, h⟩ := h_inb h
  refine j_iald B ((wf_70 hW)) b1 dX10_whomAt_10 ?_
  have e1 := Option.some.inj h
  subst e1
  exact j_iret B E rfl dX10_whomAt_11 (Nat.le_refl _) (Nat.le_refl _) ⟨rfl, rfl, rfl, rfl⟩
def fX10_findAlike_158  (k7 : Int32 → Int32 → Int32 → VI → Option (VI)) (k19 : Int32 → Int32 → Int32 → Int32 → VI → Option (VI)) (x1 : Int32) (x2 : Int32) (x3 : Int32) (x4 : Int32) (x5 : Int32) (vi : VI) : Option (VI) := if inb ((13 * x3) + x4) 169 = true then k19 x1 x2 x3 (x4 + (-1)) (j_up vi 86 ((13 * x3) + x4).toNatClampNeg x5) else none
theorem tX10_findAlike_158 {G : GT} {sv : SV} {vl0 : VL} {ns : Nat} {Γ : CT} {vi' : VI} {k7 : Int32 → Int32 → Int32 → VI → Option (VI)} {k19 : Int32 → Int32 → Int32 → Int32 → VI → Option (VI)} (B : Base G Γ mX10_findAlike 1 0 0) (E : Ends G Γ 0 0 (QV sv vi' vl0)) (hW : WF sv ns) (hk7 : ∀ (x1 : Int32) (x2 : Int32) (x3 : Int32) (vi : VI), k7 x1 x2 x3 vi = some (vi') → J G Γ 0 0 7 [(0, .ref (G.1 + 63)), (1, .int x1), (2, .int x2), (3, .int x3)] [] sv vi vl0) (hk19 : ∀ (x1 : Int32) (x2 : Int32) (x3 : Int32) (x4 : Int32) (vi : VI), k19 x1 x2 x3 x4 vi = some (vi') → J G Γ 0 0 19 [(0, .ref (G.1 + 63)), (1, .int x1), (2, .int x2), (3, .int x3), (4, .int x4)] [] sv vi vl0) : ∀ (x1 : Int32) (x2 : Int32) (x3 : Int32) (x4 : Int32) (x5 : Int32) (vi : VI), fX10_findAlike_158 k7 k19 x1 x2 x3 x4 x5 vi = some (vi') → J G Γ 0 0 158 [(0, .ref (G.1 + 63)), (1, .int x1), (2, .int x2), (3, .int x3), (4, .int x4), (5, .int x5)] [] sv vi vl0 := by
  intro x1 x2 x3 x4 x5 vi  h
  unfold fX10_findAlike_158 at h
  refine j_aload_n B dX10_findAlike_158 rfl 0 rfl ?_
  refine gf_RX10_81 B rfl (wf_65 hW) (wf_184 hW) dX10_findAlike_159 ?_
  refine j_bipush B dX10_findAlike_162 (v := 13) (by decide) ?_
  refine j_iload_n B dX10_findAlike_164 rfl 3 rfl ?_
  refine j_imul B dX10_findAlike_165 ?_
  refine j_iload B dX10_findAlike_166 4 rfl ?_
  refine j_iadd B dX10_findAlike_168 ?_
  refine j_iload B dX10_findAlike_169 5 rfl ?_
  obtain ⟨b4, h⟩ := h_inb h
  refine j_iast B ((wf_88 hW)) b4 dX10_findAlike_171 ?_
  refine j_iinc (v := (x4 + (-1))) (L' := [(4, .int (x4 + (-1))), (0, .ref (G.1 + 63)), (1, .int x1), (2, .int x2), (3, .int x3), (5, .int x5)]) B dX10_findAlike_172 4 rfl rfl (by decide) rfl ?_
  refine j_goto (tgt := 19) B dX10_findAlike_175 (by decide) ?_
  refine j_locals [1, 2, 3, 4, 0] rfl ?_
  exact hk19 (x1) (x2) (x3) ((x4 + (-1))) ((j_up vi 86 ((13 * x3) + x4).toNatClampNeg x5))  h
def fX10_findAlike_99  (k7 : Int32 → Int32 → Int32 → VI → Option (VI)) (k19 : Int32 → Int32 → Int32 → Int32 → VI → Option (VI)) (x1 : Int32) (x2 : Int32) (x3 : Int32) (x4 : Int32) (x5 : Int32) (vi : VI) : Option (VI) := (fX10_whomAt x1 x3 vi).bind fun r8 => (fX10_whomAt x2 x4 vi).bind fun r9 => if r8 = r9 then if inb (((13 * (x3 + 1)) + x4) + 1) 169 = true then if (1 + (vi 86 (((13 * (x3 + 1)) + x4) + 1).toNatClampNeg)) ≤ x5 then fX10_findAlike_158 k7 k19 x1 x2 x3 x4 x5 vi else if inb (((13 * (x3 + 1)) + x4) + 1) 169 = true then fX10_findAlike_158 k7 k19 x1 x2 x3 x4 (1 + (vi 86 (((13 * (x3 + 1)) + x4) + 1).toNatClampNeg)) vi else none else none else fX10_findAlike_158 k7 k19 x1 x2 x3 x4 x5 vi
theorem tX10_findAlike_99 {G : GT} {sv : SV} {vl0 : VL} {ns : Nat} {Γ : CT} {vi' : VI} {k7 : Int32 → Int32 → Int32 → VI → Option (VI)} {k19 : Int32 → Int32 → Int32 → Int32 → VI → Option (VI)} (B : Base G Γ mX10_findAlike 1 0 0) (E : Ends G Γ 0 0 (QV sv vi' vl0)) (hW : WF sv ns) (hk7 : ∀ (x1 : Int32) (x2 : Int32) (x3 : Int32) (vi : VI), k7 x1 x2 x3 vi = some (vi') → J G Γ 0 0 7 [(0, .ref (G.1 + 63)), (1, .int x1), (2, .int x2), (3, .int x3)] [] sv vi vl0) (hk19 : ∀ (x1 : Int32) (x2 : Int32) (x3 : Int32) (x4 : Int32) (vi : VI), k19 x1 x2 x3 x4 vi = some (vi') → J G Γ 0 0 19 [(0, .ref (G.1 + 63)), (1, .int x1), (2, .int x2), (3, .int x3), (4, .int x4)] [] sv vi vl0) : ∀ (x1 : Int32) (x2 : Int32) (x3 : Int32) (x4 : Int32) (x5 : Int32) (vi : VI), fX10_findAlike_99 k7 k19 x1 x2 x3 x4 x5 vi = some (vi') → J G Γ 0 0 99 [(0, .ref (G.1 + 63)), (1, .int x1), (2, .int x2), (3, .int x3), (4, .int x4), (5, .int x5)] [] sv vi vl0 := by
  intro x1 x2 x3 x4 x5 vi  h
  unfold fX10_findAlike_99 at h
  refine j_aload_n B dX10_findAlike_99 rfl 0 rfl ?_
  refine j_iload_n B dX10_findAlike_100 rfl 1 rfl ?_
  refine j_iload_n B dX10_findAlike_101 rfl 3 rfl ?_
  obtain ⟨r8, hr8, h⟩ := h_bind h
  refine j_cVI (rest := []) B (tX10_whomAt hW hr8) cls10 (wf_65 hW) jt_RX10_352 wi_X10_whomAt ws_X10_whomAt rfl (by decide) (Nat.le_refl _) (Nat.le_refl _) rfl (Nat.le_of_ble_eq_true rfl) dX10_findAlike_102 ?_
  refine j_aload_n B dX10_findAlike_105 rfl 0 rfl ?_
  refine j_iload_n B dX10_findAlike_106 rfl 2 rfl ?_
  refine j_iload B dX10_findAlike_107 4 rfl ?_
  obtain ⟨r9, hr9, h⟩ := h_bind h
  refine j_cVI (rest := [.int r8]) B (tX10_whomAt hW hr9) cls10 (wf_65 hW) jt_RX10_352 wi_X10_whomAt ws_X10_whomAt rfl (by decide) (Nat.le_refl _) (Nat.le_refl _) rfl (Nat.le_of_ble_eq_true rfl) dX10_findAlike_109 ?_
  refine j_icmp_ne (tgt := 158) B dX10_findAlike_112 (by decide) (fun c => ?_) (fun c => ?_)
  · replace h := h_neg c h
    refine j_locals [0, 1, 2, 3, 4, 5] rfl ?_
    exact tX10_findAlike_158 B E hW hk7 hk19 (x1) (x2) (x3) (x4) (x5) (vi)  h
  · replace h := h_pos c h
    refine j_iconst B dX10_findAlike_115 (v := 1) (by decide) ?_
    refine j_aload_n B dX10_findAlike_116 rfl 0 rfl ?_
    refine gf_RX10_81 B rfl (wf_65 hW) (wf_184 hW) dX10_findAlike_117 ?_
    refine j_bipush B dX10_findAlike_120 (v := 13) (by decide) ?_
    refine j_iload_n B dX10_findAlike_122 rfl 3 rfl ?_
    refine j_iconst B dX10_findAlike_123 (v := 1) (by decide) ?_
    refine j_iadd B dX10_findAlike_124 ?_
    refine j_imul B dX10_findAlike_125 ?_
    refine j_iload B dX10_findAlike_126 4 rfl ?_
    refine j_iadd B dX10_findAlike_128 ?_
    refine j_iconst B dX10_findAlike_129 (v := 1) (by decide) ?_
    refine j_iadd B dX10_findAlike_130 ?_
    obtain ⟨b10, h⟩ := h_inb h
    refine j_iald B ((wf_88 hW)) b10 dX10_findAlike_131 ?_
    refine j_iadd B dX10_findAlike_132 ?_
    refine j_iload B dX10_findAlike_133 5 rfl ?_
    refine j_icmp_le (tgt := 158) B dX10_findAlike_135 (by decide) (fun c => ?_) (fun c => ?_)
    · replace h := h_pos c h
      refine j_locals [0, 1, 2, 3, 4, 5] rfl ?_
      exact tX10_findAlike_158 B E hW hk7 hk19 (x1) (x2) (x3) (x4) (x5) (vi)  h
    · replace h := h_neg c h
      refine j_iconst B dX10_findAlike_138 (v := 1) (by decide) ?_
      refine j_aload_n B dX10_findAlike_139 rfl 0 rfl ?_
      refine gf_RX10_81 B rfl (wf_65 hW) (wf_184 hW) dX10_findAlike_140 ?_
      refine j_bipush B dX10_findAlike_143 (v := 13) (by decide) ?_
      refine j_iload_n B dX10_findAlike_145 rfl 3 rfl ?_
      refine j_iconst B dX10_findAlike_146 (v := 1) (by decide) ?_
      refine j_iadd B dX10_findAlike_147 ?_
      refine j_imul B dX10_findAlike_148 ?_
      refine j_iload B dX10_findAlike_149 4 rfl ?_
      refine j_iadd B dX10_findAlike_151 ?_
      refine j_iconst B dX10_findAlike_152 (v := 1) (by decide) ?_
      refine j_iadd B dX10_findAlike_153 ?_
      obtain ⟨b11, h⟩ := h_inb h
      refine j_iald B ((wf_88 hW)) b11 dX10_findAlike_154 ?_
      refine j_iadd B dX10_findAlike_155 ?_
      refine j_istore (L' := [(5, .int (1 + (vi 86 (((13 * (x3 + 1)) + x4) + 1).toNatClampNeg))), (0, .ref (G.1 + 63)), (1, .int x1), (2, .int x2), (3, .int x3), (4, .int x4)]) B dX10_findAlike_156 (by decide) rfl ?_
      refine j_locals [1, 2, 3, 4, 5, 0] rfl ?_
      exact tX10_findAlike_158 B E hW hk7 hk19 (x1) (x2) (x3) (x4) ((1 + (vi 86 (((13 * (x3 + 1)) + x4) + 1).toNatClampNeg))) (vi)  h
def fX10_findAlike_19  (k7 : Int32 → Int32 → Int32 → VI → Option (VI)) : Nat → Int32 → Int32 → Int32 → Int32 → VI → Option (VI)
  | 0, _, _, _, _, _ => none
  | F + 1, x1, x2, x3, x4, vi => if x4 < 0 then k7 x1 x2 (x3 + (-1)) vi else if inb x1 5 = true then if (vi 67 x1.toNatClampNeg) ≤ x3 then fX10_findAlike_158 k7 (fX10_findAlike_19 k7 F) x1 x2 x3 x4 0 vi else if inb x2 5 = true then if (vi 67 x2.toNatClampNeg) ≤ x4 then fX10_findAlike_158 k7 (fX10_findAlike_19 k7 F) x1 x2 x3 x4 0 vi else if inb ((13 * (x3 + 1)) + x4) 169 = true then if inb (((13 * x3) + x4) + 1) 169 = true then if (vi 86 (((13 * x3) + x4) + 1).toNatClampNeg) ≤ (vi 86 ((13 * (x3 + 1)) + x4).toNatClampNeg) then fX10_findAlike_99 k7 (fX10_findAlike_19 k7 F) x1 x2 x3 x4 (vi 86 ((13 * (x3 + 1)) + x4).toNatClampNeg) vi else if inb (((13 * x3) + x4) + 1) 169 = true then fX10_findAlike_99 k7 (fX10_findAlike_19 k7 F) x1 x2 x3 x4 (vi 86 (((13 * x3) + x4) + 1).toNatClampNeg) vi else none else none else none else none else none
theorem tX10_findAlike_19 {G : GT} {sv : SV} {vl0 : VL} {ns : Nat} {Γ : CT} {vi' : VI} {k7 : Int32 → Int32 → Int32 → VI → Option (VI)} (B : Base G Γ mX10_findAlike 1 0 0) (E : Ends G Γ 0 0 (QV sv vi' vl0)) (hW : WF sv ns) (hk7 : ∀ (x1 : Int32) (x2 : Int32) (x3 : Int32) (vi : VI), k7 x1 x2 x3 vi = some (vi') → J G Γ 0 0 7 [(0, .ref (G.1 + 63)), (1, .int x1), (2, .int x2), (3, .int x3)] [] sv vi vl0) : ∀ (F : Nat) (x1 : Int32) (x2 : Int32) (x3 : Int32) (x4 : Int32) (vi : VI), fX10_findAlike_19 k7 F x1 x2 x3 x4 vi = some (vi') → J G Γ 0 0 19 [(0, .ref (G.1 + 63)), (1, .int x1), (2, .int x2), (3, .int x3), (4, .int x4)] [] sv vi vl0 := by
  intro F
  induction F with
  | zero =>
    intro x1 x2 x3 x4 vi  h
    cases (show (none : Option (VI)) = some (vi') from h)
  | succ F ih =>
    intro x1 x2 x3 x4 vi  h
    rw [fX10_findAlike_19] at h
    refine j_iload B dX10_findAlike_19 4 rfl ?_
    refine j_if_lt (tgt := 178) B dX10_findAlike_21 (by decide) (fun c => ?_) (fun c => ?_)
    · replace h := h_pos c h
      refine j_iinc (v := (x3 + (-1))) (L' := [(3, .int (x3 + (-1))), (0, .ref (G.1 + 63)), (1, .int x1), (2, .int x2), (4, .int x4)]) B dX10_findAlike_178 3 rfl rfl (by decide) rfl ?_
      refine j_goto (tgt := 7) B dX10_findAlike_181 (by decide) ?_
      refine j_locals [1, 2, 3, 0] rfl ?_
      exact hk7 (x1) (x2) ((x3 + (-1))) (vi)  h
    · replace h := h_neg c h
      refine j_iconst B dX10_findAlike_24 (v := 0) (by decide) ?_
      refine j_istore (L' := [(5, .int 0), (0, .ref (G.1 + 63)), (1, .int x1), (2, .int x2), (3, .int x3), (4, .int x4)]) B dX10_findAlike_25 (by decide) rfl ?_
      refine j_iload_n B dX10_findAlike_27 rfl 4 rfl ?_
      refine j_aload_n B dX10_findAlike_28 rfl 1 rfl ?_
      refine gf_RX10_21 B rfl (wf_65 hW) (wf_165 hW) dX10_findAlike_29 ?_
      refine j_iload_n B dX10_findAlike_32 rfl 2 rfl ?_
      obtain ⟨b3, h⟩ := h_inb h
      refine j_iald B ((wf_69 hW)) b3 dX10_findAlike_33 ?_
      refine j_icmp_ge (tgt := 158) B dX10_findAlike_34 (by decide) (fun c => ?_) (fun c => ?_)
      · replace h := h_pos c h
        refine j_locals [1, 2, 3, 4, 5, 0] rfl ?_
        exact tX10_findAlike_158 B E hW hk7 ih (x1) (x2) (x3) (x4) (0) (vi)  h
      · replace h := h_neg c h
        refine j_iload B dX10_findAlike_37 5 rfl ?_
        refine j_aload_n B dX10_findAlike_39 rfl 1 rfl ?_
        refine gf_RX10_21 B rfl (wf_65 hW) (wf_165 hW) dX10_findAlike_40 ?_
        refine j_iload_n B dX10_findAlike_43 rfl 3 rfl ?_
        obtain ⟨b5, h⟩ := h_inb h
        refine j_iald B ((wf_69 hW)) b5 dX10_findAlike_44 ?_
        refine j_icmp_ge (tgt := 158) B dX10_findAlike_45 (by decide) (fun c => ?_) (fun c => ?_)
        · replace h := h_pos c h
          refine j_locals [1, 2, 3, 4, 5, 0] rfl ?_
          exact tX10_findAlike_158 B E hW hk7 ih (x1) (x2) (x3) (x4) (0) (vi)  h
        · replace h := h_neg c h
          refine j_aload_n B dX10_findAlike_48 rfl 1 rfl ?_
          refine gf_RX10_81 B rfl (wf_65 hW) (wf_184 hW) dX10_findAlike_49 ?_
          refine j_bipush B dX10_findAlike_52 (v := 13) (by decide) ?_
          refine j_iload_n B dX10_findAlike_54 rfl 4 rfl ?_
          refine j_iconst B dX10_findAlike_55 (v := 1) (by decide) ?_
          refine j_iadd B dX10_findAlike_56 ?_
          refine j_imul B dX10_findAlike_57 ?_
          refine j_iload B dX10_findAlike_58 5 rfl ?_
          refine j_iadd B dX10_findAlike_60 ?_
          obtain ⟨b6, h⟩ := h_inb h
          refine j_iald B ((wf_88 hW)) b6 dX10_findAlike_61 ?_
          refine j_istore (L' := [(5, .int (vi 86 ((13 * (x3 + 1)) + x4).toNatClampNeg)), (0, .ref (G.1 + 63)), (1, .int x1), (2, .int x2), (3, .int x3), (4, .int x4)]) B dX10_findAlike_62 (by decide) rfl ?_
          refine j_aload_n B dX10_findAlike_64 rfl 1 rfl ?_
          refine gf_RX10_81 B rfl (wf_65 hW) (wf_184 hW) dX10_findAlike_65 ?_
          refine j_bipush B dX10_findAlike_68 (v := 13) (by decide) ?_
          refine j_iload_n B dX10_findAlike_70 rfl 4 rfl ?_
          refine j_imul B dX10_findAlike_71 ?_
          refine j_iload B dX10_findAlike_72 5 rfl ?_
          refine j_iadd B dX10_findAlike_74 ?_
          refine j_iconst B dX10_findAlike_75 (v := 1) (by decide) ?_
          refine j_iadd B dX10_findAlike_76 ?_
          obtain ⟨b7, h⟩ := h_inb h
          refine j_iald B ((wf_88 hW)) b7 dX10_findAlike_77 ?_
          refine j_iload B dX10_findAlike_78 0 rfl ?_
          refine j_icmp_le (tgt := 99) B dX10_findAlike_80 (by decide) (fun c => ?_) (fun c => ?_)
          · replace h := h_pos c h
            refine j_locals [1, 2, 3, 4, 5, 0] rfl ?_
            exact tX10_findAlike_99 B E hW hk7 ih (x1) (x2) (x3) (x4) ((vi 86 ((13 * (x3 + 1)) + x4).toNatClampNeg)) (vi)  h
          · replace h := h_neg c h
            refine j_aload_n B dX10_findAlike_83 rfl 1 rfl ?_
            refine gf_RX10_81 B rfl (wf_65 hW) (wf_184 hW) dX10_findAlike_84 ?_
            refine j_bipush B dX10_findAlike_87 (v := 13) (by decide) ?_
            refine j_iload_n B dX10_findAlike_89 rfl 4 rfl ?_
            refine j_imul B dX10_findAlike_90 ?_
            refine j_iload B dX10_findAlike_91 5 rfl ?_
            refine j_iadd B dX10_findAlike_93 ?_
            refine j_iconst B dX10_findAlike_94 (v := 1) (by decide) ?_
            refine j_iadd B dX10_findAlike_95 ?_
            obtain ⟨b12, h⟩ := h_inb h
            refine j_iald B ((wf_88 hW)) b12 dX10_findAlike_96 ?_
            refine j_istore (L' := [(5, .int (vi 86 (((13 * x3) + x4) + 1).toNatClampNeg)), (0, .ref (G.1 + 63)), (1, .int x1), (2, .int x2), (3, .int x3), (4, .int x4)]) B dX10_findAlike_97 (by decide) rfl ?_
            refine j_locals [1, 2, 3, 4, 5, 0] rfl ?_
            exact tX10_findAlike_99 B E hW hk7 ih (x1) (x2) (x3) (x4) ((vi 86 (((13 * x3) + x4) + 1).toNatClampNeg)) (vi)  h
def fX10_findAlike_7  : Nat → Int32 → Int32 → Int32 → VI → Option (VI)
  | 0, _, _, _, _ => none
  | F + 1, x1, x2, x3, vi => if x3 < 0 then some (vi) else if inb x2 5 = true then fX10_findAlike_19 (fX10_findAlike_7  F) FU x1 x2 x3 (vi 67 x2.toNatClampNeg) vi else none
theorem tX10_findAlike_7 {G : GT} {sv : SV} {vl0 : VL} {ns : Nat} {Γ : CT} {vi' : VI} (B : Base G Γ mX10_findAlike 1 0 0) (E : Ends G Γ 0 0 (QV sv vi' vl0)) (hW : WF sv ns) : ∀ (F : Nat) (x1 : Int32) (x2 : Int32) (x3 : Int32) (vi : VI), fX10_findAlike_7  F x1 x2 x3 vi = some (vi') → J G Γ 0 0 7 [(0, .ref (G.1 + 63)), (1, .int x1), (2, .int x2), (3, .int x3)] [] sv vi vl0 := by
  intro F
  induction F with
  | zero =>
    intro x1 x2 x3 vi  h
    cases (show (none : Option (VI)) = some (vi') from h)
  | succ F ih =>
    intro x1 x2 x3 vi  h
    rw [fX10_findAlike_7] at h
    refine j_iload_n B dX10_findAlike_7 rfl 3 rfl ?_
    refine j_if_lt (tgt := 184) B dX10_findAlike_8 (by decide) (fun c => ?_) (fun c => ?_)
    · replace h := h_pos c h
      have e1 := Option.some.inj h
      subst e1
      exact j_vret B E rfl dX10_findAlike_184 (Nat.le_refl _) (Nat.le_refl _) ⟨rfl, rfl, rfl, rfl⟩
    · replace h := h_neg c h
      refine j_aload_n B dX10_findAlike_11 rfl 0 rfl ?_
      refine gf_RX10_21 B rfl (wf_65 hW) (wf_165 hW) dX10_findAlike_12 ?_
      refine j_iload_n B dX10_findAlike_15 rfl 2 rfl ?_
      obtain ⟨b2, h⟩ := h_inb h
      refine j_iald B ((wf_69 hW)) b2 dX10_findAlike_16 ?_
      refine j_istore (L' := [(4, .int (vi 67 x2.toNatClampNeg)), (0, .ref (G.1 + 63)), (1, .int x1), (2, .int x2), (3, .int x3)]) B dX10_findAlike_17 (by decide) rfl ?_
      refine j_locals [1, 2, 3, 4, 0] rfl ?_
      exact tX10_findAlike_19 B E hW ih FU (x1) (x2) (x3) ((vi 67 x2.toNatClampNeg)) (vi)  h
def fX10_findAlike (x1 : Int32) (x2 : Int32) (vi0 : VI) : Option (VI) := if inb x1 5 = true then fX10_findAlike_7  FU x1 x2 (vi0 67 x1.toNatClampNeg) vi0 else none
theorem tX10_findAlike {G : GT} {sv : SV} {vi0 : VI} {vl0 : VL} {ns : Nat} {x1 : Int32} {x2 : Int32} {vi' : VI} (hW : WF sv ns) (h : fX10_findAlike x1 x2 vi0 = some (vi')) : Call G mX10_findAlike 1 0 0 [.ref (G.1 + 63), .int x1, .int x2] sv vi0 vl0 (QV sv vi' vl0) := by
  refine j_mk (by decide +kernel) (Nat.le_of_ble_eq_true rfl) (fun Γ B E => ?_)
  show J G Γ 0 0 0 [(0, .ref (G.1 + 63)), (1, .int x1), (2, .int x2)] [] sv vi0 vl0
  unfold fX10_findAlike at h
  refine j_aload_n B dX10_findAlike_0 rfl 0 rfl ?_
  refine gf_RX10_21 B rfl (wf_65 hW) (wf_165 hW) dX10_findAlike_1 ?_
  refine j_iload_n B dX10_findAlike_4 rfl 1 rfl ?_
  obtain ⟨b1, h⟩ := h_inb h
  refine j_iald B ((wf_69 hW)) b1 dX10_findAlike_5 ?_
  refine j_istore_n (L' := [(3, .int (vi0 67 x1.toNatClampNeg)), (0, .ref (G.1 + 63)), (1, .int x1), (2, .int x2)]) B dX10_findAlike_6 rfl (by decide) rfl ?_
  refine j_locals [1, 2, 3, 0] rfl ?_
  exact tX10_findAlike_7 B E hW FU (x1) (x2) ((vi0 67 x1.toNatClampNeg)) (vi0)  h
def fX10_placeOf_3 (vi0 : VI) : Nat → Int32 → Int32 → Int32 → Option (Int32)
  | 0, _, _, _ => none
  | F + 1, x1, x3, x4 => if inb x1 5 = true then if (vi0 67 x1.toNatClampNeg) ≤ x4 then some ((-2)) else (fX10_whomAt x1 x4 vi0).bind fun r2 => if r2 = x3 then some (x4) else fX10_placeOf_3 vi0 F x1 x3 (x4 + 1) else none
theorem tX10_placeOf_3 {G : GT} {sv : SV} {vi0 : VI} {vl0 : VL} {ns : Nat} {Γ : CT} {r : Int32} (B : Base G Γ mX10_placeOf 1 0 0) (E : Ends G Γ 0 0 (QI r sv vi0 vl0)) (hW : WF sv ns) : ∀ (F : Nat) (x1 : Int32) (x3 : Int32) (x4 : Int32), fX10_placeOf_3 vi0 F x1 x3 x4 = some (r) → J G Γ 0 0 3 [(0, .ref (G.1 + 63)), (1, .int x1), (3, .int x3), (4, .int x4)] [] sv vi0 vl0 := by
  intro F
  induction F with
  | zero =>
    intro x1 x3 x4  h
    cases (show (none : Option (Int32)) = some (r) from h)
  | succ F ih =>
    intro x1 x3 x4  h
    rw [fX10_placeOf_3] at h
    refine j_iload B dX10_placeOf_3 3 rfl ?_
    refine j_aload_n B dX10_placeOf_5 rfl 0 rfl ?_
    refine gf_RX10_21 B rfl (wf_65 hW) (wf_165 hW) dX10_placeOf_6 ?_
    refine j_iload_n B dX10_placeOf_9 rfl 1 rfl ?_
    obtain ⟨b1, h⟩ := h_inb h
    refine j_iald B ((wf_69 hW)) b1 dX10_placeOf_10 ?_
    refine j_icmp_ge (tgt := 34) B dX10_placeOf_11 (by decide) (fun c => ?_) (fun c => ?_)
    · replace h := h_pos c h
      refine j_bipush B dX10_placeOf_34 (v := (-2)) (by decide) ?_
      have e1 := Option.some.inj h
      subst e1
      exact j_iret B E rfl dX10_placeOf_36 (Nat.le_refl _) (Nat.le_refl _) ⟨rfl, rfl, rfl, rfl⟩
    · replace h := h_neg c h
      refine j_aload_n B dX10_placeOf_14 rfl 0 rfl ?_
      refine j_iload_n B dX10_placeOf_15 rfl 1 rfl ?_
      refine j_iload B dX10_placeOf_16 3 rfl ?_
      obtain ⟨r2, hr2, h⟩ := h_bind h
      refine j_cVI (rest := []) B (tX10_whomAt hW hr2) cls10 (wf_65 hW) jt_RX10_352 wi_X10_whomAt ws_X10_whomAt rfl (by decide) (Nat.le_refl _) (Nat.le_refl _) rfl (Nat.le_of_ble_eq_true rfl) dX10_placeOf_18 ?_
      refine j_iload_n B dX10_placeOf_21 rfl 2 rfl ?_
      refine j_icmp_ne (tgt := 28) B dX10_placeOf_22 (by decide) (fun c => ?_) (fun c => ?_)
      · replace h := h_neg c h
        refine j_iinc (v := (x4 + 1)) (L' := [(4, .int (x4 + 1)), (0, .ref (G.1 + 63)), (1, .int x1), (3, .int x3)]) B dX10_placeOf_28 3 rfl rfl (by decide) rfl ?_
        refine j_goto (tgt := 3) B dX10_placeOf_31 (by decide) ?_
        refine j_locals [1, 2, 3, 0] rfl ?_
        exact ih (x1) (x3) ((x4 + 1))  h
      · replace h := h_pos c h
        refine j_iload B dX10_placeOf_25 3 rfl ?_
        have e1 := Option.some.inj h
        subst e1
        exact j_iret B E rfl dX10_placeOf_27 (Nat.le_refl _) (Nat.le_refl _) ⟨rfl, rfl, rfl, rfl⟩
def fX10_placeOf (x1 : Int32) (x2 : Int32) (x3 : Int32) (vi0 : VI) : Option (Int32) := fX10_placeOf_3 vi0 FU x1 x3 x2
theorem tX10_placeOf {G : GT} {sv : SV} {vi0 : VI} {vl0 : VL} {ns : Nat} {x1 : Int32} {x2 : Int32} {x3 : Int32} {r : Int32} (hW : WF sv ns) (h : fX10_placeOf x1 x2 x3 vi0 = some (r)) : Call G mX10_placeOf 1 0 0 [.ref (G.1 + 63), .int x1, .int x2, .int x3] sv vi0 vl0 (QI r sv vi0 vl0) := by
  refine j_mk (by decide +kernel) (Nat.le_of_ble_eq_true rfl) (fun Γ B E => ?_)
  show J G Γ 0 0 0 [(0, .ref (G.1 + 63)), (1, .int x1), (2, .int x2), (3, .int x3)] [] sv vi0 vl0
  unfold fX10_placeOf at h
  refine j_iload_n B dX10_placeOf_0 rfl 2 rfl ?_
  refine j_istore (L' := [(4, .int x2), (0, .ref (G.1 + 63)), (1, .int x1), (2, .int x2), (3, .int x3)]) B dX10_placeOf_1 (by decide) rfl ?_
  refine j_locals [1, 2, 4, 0] rfl ?_
  exact tX10_placeOf_3 B E hW FU (x1) (x3) (x2)  h
