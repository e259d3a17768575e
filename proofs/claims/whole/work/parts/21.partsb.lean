def fX5_worth_135 (o : Nat) (k72 : Int32 → VI → Option (Int32 × VI)) (x6 : Int32) (vi : VI) : Option (Int32 × VI) := k72 (x6 + 1) vi
theorem tX5_worth_135 {G : GT} {sv : SV} {vl0 : VL} {Γ : CT} {o : Nat} {r : Int32} {vi' : VI} {k72 : Int32 → VI → Option (Int32 × VI)} (B : Base G Γ mX5_worth 2 0 0) (E : Ends G Γ 0 0 (QI r sv vi' vl0)) (ho : isLaw sv o) (hk72 : ∀ (x6 : Int32) (vi : VI), k72 x6 vi = some (r, vi') → J G Γ 0 0 72 [(0, .ref (G.1 + o)), (6, .int x6)] [] sv vi vl0) : ∀ (x6 : Int32) (vi : VI), fX5_worth_135 o k72 x6 vi = some (r, vi') → J G Γ 0 0 135 [(0, .ref (G.1 + o)), (6, .int x6)] [] sv vi vl0 := by
  intro x6 vi  h
  unfold fX5_worth_135 at h
  refine j_iinc (v := (x6 + 1)) (L' := [(6, .int (x6 + 1)), (0, .ref (G.1 + o))]) B dX5_worth_135 1 rfl rfl (by decide) rfl ?_
  refine j_goto (tgt := 72) B dX5_worth_138 (by decide) ?_
  refine j_locals [1, 0] rfl ?_
  exact hk72 ((x6 + 1)) (vi)  h
def fX5_worth_72 (o : Nat) : Nat → Int32 → VI → Option (Int32 × VI)
  | 0, _, _ => none
  | F + 1, x6, vi => if (vi o 1) ≤ x6 then some (0, vi) else if inb x6 121 = true then if (vi (o + 1) x6.toNatClampNeg) = 20059 then (fX5_pop o vi).bind fun r5 => some (r5.1, r5.2) else if (vi (o + 1) x6.toNatClampNeg) = 20063 then (fX5_pop o vi).bind fun r2 => if r2.1 = 0 then (fX5_endOfLine o x6 r2.2).bind fun r3 => fX5_worth_135 o (fX5_worth_72 o F) r3 r2.2 else fX5_worth_135 o (fX5_worth_72 o F) x6 r2.2 else (fX5_work o (vi (o + 1) x6.toNatClampNeg) vi).bind fun r4 => fX5_worth_135 o (fX5_worth_72 o F) x6 r4 else none
theorem tX5_worth_72 {G : GT} {sv : SV} {vl0 : VL} {Γ : CT} {o : Nat} {r : Int32} {vi' : VI} (B : Base G Γ mX5_worth 2 0 0) (E : Ends G Γ 0 0 (QI r sv vi' vl0)) (ho : isLaw sv o) : ∀ (F : Nat) (x6 : Int32) (vi : VI), fX5_worth_72 o F x6 vi = some (r, vi') → J G Γ 0 0 72 [(0, .ref (G.1 + o)), (6, .int x6)] [] sv vi vl0 := by
  intro F
  induction F with
  | zero =>
    intro x6 vi  h
    cases (show (none : Option (Int32 × VI)) = some (r, vi') from h)
  | succ F ih =>
    intro x6 vi  h
    rw [fX5_worth_72] at h
    refine j_iload B dX5_worth_72 1 rfl ?_
    refine j_aload_n B dX5_worth_74 rfl 0 rfl ?_
    refine gf_RX5_21 B rfl ((ho).1) dX5_worth_75 ?_
    refine j_icmp_ge (tgt := 141) B dX5_worth_78 (by decide) (fun c => ?_) (fun c => ?_)
    · replace h := h_pos c h
      refine j_iconst B dX5_worth_141 (v := 0) (by decide) ?_
      obtain ⟨e1, e2⟩ := Prod.mk.inj (Option.some.inj h)
      subst e1
      subst e2
      exact j_iret B E rfl dX5_worth_142 (Nat.le_refl _) (Nat.le_refl _) ⟨rfl, rfl, rfl, rfl⟩
    · replace h := h_neg c h
      refine j_aload_n B dX5_worth_81 rfl 0 rfl ?_
      refine gf_RX5_11 B rfl ((ho).1) (ho).2.1 dX5_worth_82 ?_
      refine j_iload B dX5_worth_85 1 rfl ?_
      obtain ⟨b1, h⟩ := h_inb h
      refine j_iald B ((ho).2.2.2.2.1) b1 dX5_worth_87 ?_
      refine j_istore (L' := [(7, .int (vi (o + 1) x6.toNatClampNeg)), (0, .ref (G.1 + o)), (6, .int x6)]) B dX5_worth_88 (by decide) rfl ?_
      refine j_iload B dX5_worth_90 0 rfl ?_
      refine j_sipush B dX5_worth_92 (v := 20059) (by decide) ?_
      refine j_icmp_ne (tgt := 103) B dX5_worth_95 (by decide) (fun c => ?_) (fun c => ?_)
      · replace h := h_neg c h
        refine j_iload B dX5_worth_103 0 rfl ?_
        refine j_sipush B dX5_worth_105 (v := 20063) (by decide) ?_
        refine j_icmp_eq (tgt := 120) B dX5_worth_108 (by decide) (fun c => ?_) (fun c => ?_)
        · replace h := h_pos c h
          refine j_aload_n B dX5_worth_120 rfl 1 rfl ?_
          obtain ⟨r2, hr2, h⟩ := h_bind h
          refine j_cVI (rest := []) B (tX5_pop (ho) hr2) cls5 ((ho).1) jt_RX5_43 wi_X5_pop ws_X5_pop rfl (by decide) (Nat.le_refl _) (Nat.le_refl _) rfl (Nat.le_of_ble_eq_true rfl) dX5_worth_121 ?_
          refine j_if_ne (tgt := 135) B dX5_worth_124 (by decide) (fun c => ?_) (fun c => ?_)
          · replace h := h_neg c h
            refine j_locals [1, 2] rfl ?_
            exact tX5_worth_135 B E ho ih (x6) (r2.2)  h
          · replace h := h_pos c h
            refine j_aload_n B dX5_worth_127 rfl 1 rfl ?_
            refine j_iload B dX5_worth_128 2 rfl ?_
            obtain ⟨r3, hr3, h⟩ := h_bind h
            refine j_cVI (rest := []) B (tX5_endOfLine (ho) hr3) cls5 ((ho).1) jt_RX5_51 wi_X5_endOfLine ws_X5_endOfLine rfl (by decide) (Nat.le_refl _) (Nat.le_refl _) rfl (Nat.le_of_ble_eq_true rfl) dX5_worth_130 ?_
            refine j_istore (L' := [(6, .int r3), (7, .int (vi (o + 1) x6.toNatClampNeg)), (0, .ref (G.1 + o))]) B dX5_worth_133 (by decide) rfl ?_
            refine j_locals [2, 0] rfl ?_
            exact tX5_worth_135 B E ho ih (r3) (r2.2)  h
        · replace h := h_neg c h
          refine j_aload_n B dX5_worth_111 rfl 1 rfl ?_
          refine j_iload B dX5_worth_112 0 rfl ?_
          obtain ⟨r4, hr4, h⟩ := h_bind h
          refine j_cVV (rest := []) B (tX5_work (ho) hr4) cls5 ((ho).1) jt_RX5_47 wi_X5_work ws_X5_work rfl (by decide) (Nat.le_refl _) (Nat.le_refl _) rfl (Nat.le_of_ble_eq_true rfl) dX5_worth_114 ?_
          refine j_goto (tgt := 135) B dX5_worth_117 (by decide) ?_
          refine j_locals [1, 2] rfl ?_
          exact tX5_worth_135 B E ho ih (x6) (r4)  h
      · replace h := h_pos c h
        refine j_aload_n B dX5_worth_98 rfl 1 rfl ?_
        obtain ⟨r5, hr5, h⟩ := h_bind h
        refine j_cVI (rest := []) B (tX5_pop (ho) hr5) cls5 ((ho).1) jt_RX5_43 wi_X5_pop ws_X5_pop rfl (by decide) (Nat.le_refl _) (Nat.le_refl _) rfl (Nat.le_of_ble_eq_true rfl) dX5_worth_99 ?_
        obtain ⟨e1, e2⟩ := Prod.mk.inj (Option.some.inj h)
        subst e1
        subst e2
        exact j_iret B E rfl dX5_worth_102 (Nat.le_refl _) (Nat.le_refl _) ⟨rfl, rfl, rfl, rfl⟩
def fX5_worth (o : Nat) (x1 : Int32) (x2 : Int32) (x3 : Int32) (x4 : Int32) (x5 : Int32) (vi0 : VI) : Option (Int32 × VI) := if (vi0 o 1) = 0 then some (((if (x1 - (x3 / 3)) < 0 then 0 else (x1 - (x3 / 3))) : Int32), vi0) else fX5_worth_72 o FU 0 (j_up (j_up (j_up (j_up (j_up (j_up (j_up vi0 (o + 2) (0 : Int32).toNatClampNeg x1) (o + 2) (1 : Int32).toNatClampNeg x2) (o + 2) (2 : Int32).toNatClampNeg x3) (o + 2) (3 : Int32).toNatClampNeg ((j_up (j_up (j_up vi0 (o + 2) (0 : Int32).toNatClampNeg x1) (o + 2) (1 : Int32).toNatClampNeg x2) (o + 2) (2 : Int32).toNatClampNeg x3) o 2)) (o + 2) (4 : Int32).toNatClampNeg x4) (o + 2) (5 : Int32).toNatClampNeg x5) o 5 0)
theorem tX5_worth {G : GT} {sv : SV} {vi0 : VI} {vl0 : VL} {o : Nat} {x1 : Int32} {x2 : Int32} {x3 : Int32} {x4 : Int32} {x5 : Int32} {r : Int32} {vi' : VI} (ho : isLaw sv o) (h : fX5_worth o x1 x2 x3 x4 x5 vi0 = some (r, vi')) : Call G mX5_worth 2 0 0 [.ref (G.1 + o), .int x1, .int x2, .int x3, .int x4, .int x5] sv vi0 vl0 (QI r sv vi' vl0) := by
  refine j_mk (by decide +kernel) (Nat.le_of_ble_eq_true rfl) (fun Γ B E => ?_)
  show J G Γ 0 0 0 [(0, .ref (G.1 + o)), (1, .int x1), (2, .int x2), (3, .int x3), (4, .int x4), (5, .int x5)] [] sv vi0 vl0
  unfold fX5_worth at h
  refine j_aload_n B dX5_worth_0 rfl 0 rfl ?_
  refine gf_RX5_21 B rfl ((ho).1) dX5_worth_1 ?_
  refine j_if_ne (tgt := 17) B dX5_worth_4 (by decide) (fun c => ?_) (fun c => ?_)
  · replace h := h_neg c h
    refine j_aload_n B dX5_worth_17 rfl 0 rfl ?_
    refine gf_RX5_15 B rfl ((ho).1) (ho).2.2.1 dX5_worth_18 ?_
    refine j_iconst B dX5_worth_21 (v := 0) (by decide) ?_
    refine j_iload_n B dX5_worth_22 rfl 1 rfl ?_
    refine j_iast B ((ho).2.2.2.2.2.1) (vp_in_iff.mpr ⟨by decide, by decide⟩) dX5_worth_23 ?_
    refine j_aload_n B dX5_worth_24 rfl 0 rfl ?_
    refine gf_RX5_15 B rfl ((ho).1) (ho).2.2.1 dX5_worth_25 ?_
    refine j_iconst B dX5_worth_28 (v := 1) (by decide) ?_
    refine j_iload_n B dX5_worth_29 rfl 2 rfl ?_
    refine j_iast B ((ho).2.2.2.2.2.1) (vp_in_iff.mpr ⟨by decide, by decide⟩) dX5_worth_30 ?_
    refine j_aload_n B dX5_worth_31 rfl 0 rfl ?_
    refine gf_RX5_15 B rfl ((ho).1) (ho).2.2.1 dX5_worth_32 ?_
    refine j_iconst B dX5_worth_35 (v := 2) (by decide) ?_
    refine j_iload_n B dX5_worth_36 rfl 3 rfl ?_
    refine j_iast B ((ho).2.2.2.2.2.1) (vp_in_iff.mpr ⟨by decide, by decide⟩) dX5_worth_37 ?_
    refine j_aload_n B dX5_worth_38 rfl 0 rfl ?_
    refine gf_RX5_15 B rfl ((ho).1) (ho).2.2.1 dX5_worth_39 ?_
    refine j_iconst B dX5_worth_42 (v := 3) (by decide) ?_
    refine j_aload_n B dX5_worth_43 rfl 0 rfl ?_
    refine gf_RX5_37 B rfl ((ho).1) dX5_worth_44 ?_
    refine j_iast B ((ho).2.2.2.2.2.1) (vp_in_iff.mpr ⟨by decide, by decide⟩) dX5_worth_47 ?_
    refine j_aload_n B dX5_worth_48 rfl 0 rfl ?_
    refine gf_RX5_15 B rfl ((ho).1) (ho).2.2.1 dX5_worth_49 ?_
    refine j_iconst B dX5_worth_52 (v := 4) (by decide) ?_
    refine j_iload B dX5_worth_53 4 rfl ?_
    refine j_iast B ((ho).2.2.2.2.2.1) (vp_in_iff.mpr ⟨by decide, by decide⟩) dX5_worth_55 ?_
    refine j_aload_n B dX5_worth_56 rfl 0 rfl ?_
    refine gf_RX5_15 B rfl ((ho).1) (ho).2.2.1 dX5_worth_57 ?_
    refine j_iconst B dX5_worth_60 (v := 5) (by decide) ?_
    refine j_iload B dX5_worth_61 5 rfl ?_
    refine j_iast B ((ho).2.2.2.2.2.1) (vp_in_iff.mpr ⟨by decide, by decide⟩) dX5_worth_63 ?_
    refine j_aload_n B dX5_worth_64 rfl 0 rfl ?_
    refine j_iconst B dX5_worth_65 (v := 0) (by decide) ?_
    refine pf_RX5_40 B rfl ((ho).1) dX5_worth_66 ?_
    refine j_iconst B dX5_worth_69 (v := 0) (by decide) ?_
    refine j_istore (L' := [(6, .int 0), (0, .ref (G.1 + o)), (1, .int x1), (2, .int x2), (3, .int x3), (4, .int x4), (5, .int x5)]) B dX5_worth_70 (by decide) rfl ?_
    refine j_locals [1, 0] rfl ?_
    exact tX5_worth_72 B E ho FU (0) ((j_up (j_up (j_up (j_up (j_up (j_up (j_up vi0 (o + 2) (0 : Int32).toNatClampNeg x1) (o + 2) (1 : Int32).toNatClampNeg x2) (o + 2) (2 : Int32).toNatClampNeg x3) (o + 2) (3 : Int32).toNatClampNeg ((j_up (j_up (j_up vi0 (o + 2) (0 : Int32).toNatClampNeg x1) (o + 2) (1 : Int32).toNatClampNeg x2) (o + 2) (2 : Int32).toNatClampNeg x3) o 2)) (o + 2) (4 : Int32).toNatClampNeg x4) (o + 2) (5 : Int32).toNatClampNeg x5) o 5 0))  h
  · replace h := h_pos c h
    refine j_iload_n B dX5_worth_7 rfl 1 rfl ?_
    refine j_iload_n B dX5_worth_8 rfl 3 rfl ?_
    refine j_iconst B dX5_worth_9 (v := 3) (by decide) ?_
    refine j_idiv B dX5_worth_10 (by decide) ?_
    refine j_isub B dX5_worth_11 ?_
    refine j_iconst B dX5_worth_12 (v := 0) (by decide) ?_
    refine j_mmax B (jt_RX5_31).2.2.1 wst_J9_max_7cf53 wini_RJ9 wcm_max (by decide) (Nat.le_refl _) (Nat.le_refl _) (Nat.le_of_ble_eq_true rfl) dX5_worth_13 ?_
    obtain ⟨e1, e2⟩ := Prod.mk.inj (Option.some.inj h)
    subst e1
    subst e2
    exact j_iret B E rfl dX5_worth_16 (Nat.le_refl _) (Nat.le_refl _) ⟨rfl, rfl, rfl, rfl⟩
def fX7_gives_81 (o : Nat) (x4 : Int32) (vi : VI) : Option (Int32 × VI) := if inb x4 780 = true then some (((vi (o + 4) x4.toNatClampNeg) - 1), vi) else none
theorem tX7_gives_81 {G : GT} {sv : SV} {vl0 : VL} {ns : Nat} {Γ : CT} {o : Nat} {r : Int32} {vi' : VI} (B : Base G Γ mX7_gives 3 0 0) (E : Ends G Γ 0 0 (QI r sv vi' vl0)) (hW : WF sv ns) (ho : isSill sv o) : ∀ (x4 : Int32) (vi : VI), fX7_gives_81 o x4 vi = some (r, vi') → J G Γ 0 0 81 [(0, .ref (G.1 + o)), (4, .int x4)] [] sv vi vl0 := by
  intro x4 vi  h
  unfold fX7_gives_81 at h
  refine j_aload_n B dX7_gives_81 rfl 0 rfl ?_
  refine gf_RX7_18 B rfl ((ho).1) (ho).2.2.2.1 dX7_gives_82 ?_
  refine j_iload B dX7_gives_85 1 rfl ?_
  obtain ⟨b2, h⟩ := h_inb h
  refine j_bald B ((ho).2.2.2.2.1) b2 dX7_gives_87 ?_
  refine j_iconst B dX7_gives_88 (v := 1) (by decide) ?_
  refine j_isub B dX7_gives_89 ?_
  obtain ⟨e1, e2⟩ := Prod.mk.inj (Option.some.inj h)
  subst e1
  subst e2
  exact j_iret B E rfl dX7_gives_90 (Nat.le_refl _) (Nat.le_refl _) ⟨rfl, rfl, rfl, rfl⟩
def fX7_gives (o : Nat) (x1 : Int32) (x2 : Int32) (x3 : Int32) (vi0 : VI) : Option (Int32 × VI) := if ((((x1 * 6) + x2) * 10) + x3) < 0 then some (0, vi0) else if ((((x1 * 6) + x2) * 10) + x3) < 780 then if inb ((((x1 * 6) + x2) * 10) + x3) 780 = true then if (vi0 (o + 4) ((((x1 * 6) + x2) * 10) + x3).toNatClampNeg) = 0 then (fX5_worth 5 x3 (vi0 o 3) (vi0 o 4) x1 x2 vi0).bind fun r3 => if inb ((((x1 * 6) + x2) * 10) + x3) 780 = true then fX7_gives_81 o ((((x1 * 6) + x2) * 10) + x3) (j_up r3.2 (o + 4) ((((x1 * 6) + x2) * 10) + x3).toNatClampNeg (1 + ((if 0 < ((if 9 < r3.1 then 9 else r3.1) : Int32) then ((if 9 < r3.1 then 9 else r3.1) : Int32) else 0) : Int32)).toInt8.toInt32.toInt8.toInt32) else none else fX7_gives_81 o ((((x1 * 6) + x2) * 10) + x3) vi0 else none else some (0, vi0)
theorem tX7_gives {G : GT} {sv : SV} {vi0 : VI} {vl0 : VL} {ns : Nat} {o : Nat} {x1 : Int32} {x2 : Int32} {x3 : Int32} {r : Int32} {vi' : VI} (hW : WF sv ns) (ho : isSill sv o) (h : fX7_gives o x1 x2 x3 vi0 = some (r, vi')) : Call G mX7_gives 3 0 0 [.ref (G.1 + o), .int x1, .int x2, .int x3] sv vi0 vl0 (QI r sv vi' vl0) := by
  refine j_mk (by decide +kernel) (Nat.le_of_ble_eq_true rfl) (fun Γ B E => ?_)
  show J G Γ 0 0 0 [(0, .ref (G.1 + o)), (1, .int x1), (2, .int x2), (3, .int x3)] [] sv vi0 vl0
  unfold fX7_gives at h
  refine j_iload_n B dX7_gives_0 rfl 1 rfl ?_
  refine j_bipush B dX7_gives_1 (v := 6) (by decide) ?_
  refine j_imul B dX7_gives_3 ?_
  refine j_iload_n B dX7_gives_4 rfl 2 rfl ?_
  refine j_iadd B dX7_gives_5 ?_
  refine j_bipush B dX7_gives_6 (v := 10) (by decide) ?_
  refine j_imul B dX7_gives_8 ?_
  refine j_iload_n B dX7_gives_9 rfl 3 rfl ?_
  refine j_iadd B dX7_gives_10 ?_
  refine j_istore (L' := [(4, .int ((((x1 * 6) + x2) * 10) + x3)), (0, .ref (G.1 + o)), (1, .int x1), (2, .int x2), (3, .int x3)]) B dX7_gives_11 (by decide) rfl ?_
  refine j_iload B dX7_gives_13 0 rfl ?_
  refine j_if_lt (tgt := 28) B dX7_gives_15 (by decide) (fun c => ?_) (fun c => ?_)
  · replace h := h_pos c h
    refine j_iconst B dX7_gives_28 (v := 0) (by decide) ?_
    obtain ⟨e1, e2⟩ := Prod.mk.inj (Option.some.inj h)
    subst e1
    subst e2
    exact j_iret B E rfl dX7_gives_29 (Nat.le_refl _) (Nat.le_refl _) ⟨rfl, rfl, rfl, rfl⟩
  · replace h := h_neg c h
    refine j_iload B dX7_gives_18 0 rfl ?_
    refine j_aload_n B dX7_gives_20 rfl 1 rfl ?_
    refine gf_RX7_18 B rfl ((ho).1) (ho).2.2.2.1 dX7_gives_21 ?_
    refine j_alen (v := 780) B ((ho).2.2.2.2.1) (Or.inr (Or.inl rfl)) (by decide) dX7_gives_24 ?_
    refine j_icmp_lt (tgt := 30) B dX7_gives_25 (by decide) (fun c => ?_) (fun c => ?_)
    · replace h := h_pos c h
      refine j_aload_n B dX7_gives_30 rfl 1 rfl ?_
      refine gf_RX7_18 B rfl ((ho).1) (ho).2.2.2.1 dX7_gives_31 ?_
      refine j_iload B dX7_gives_34 0 rfl ?_
      obtain ⟨b1, h⟩ := h_inb h
      refine j_bald B ((ho).2.2.2.2.1) b1 dX7_gives_36 ?_
      refine j_if_ne (tgt := 81) B dX7_gives_37 (by decide) (fun c => ?_) (fun c => ?_)
      · replace h := h_neg c h
        refine j_locals [1, 0] rfl ?_
        exact tX7_gives_81 B E hW ho (((((x1 * 6) + x2) * 10) + x3)) (vi0)  h
      · replace h := h_pos c h
        refine j_aload_n B dX7_gives_40 rfl 1 rfl ?_
        refine gf_RX7_22 B rfl ((ho).1) (ho).2.1 dX7_gives_41 ?_
        refine j_iload_n B dX7_gives_44 rfl 4 rfl ?_
        refine j_aload_n B dX7_gives_45 rfl 1 rfl ?_
        refine gf_RX7_26 B rfl ((ho).1) dX7_gives_46 ?_
        refine j_aload_n B dX7_gives_49 rfl 1 rfl ?_
        refine gf_RX7_30 B rfl ((ho).1) dX7_gives_50 ?_
        refine j_iload_n B dX7_gives_53 rfl 2 rfl ?_
        refine j_iload_n B dX7_gives_54 rfl 3 rfl ?_
        obtain ⟨r3, hr3, h⟩ := h_bind h
        refine j_cVI (rest := []) B (tX5_worth ((wf_law5 hW)) hr3) cls5 (wf_7 hW) jt_RX7_33 wi_X5_worth ws_X5_worth rfl (by decide) (Nat.le_refl _) (Nat.le_refl _) rfl (Nat.le_of_ble_eq_true rfl) dX7_gives_55 ?_
        refine j_istore (L' := [(5, .int r3.1), (4, .int ((((x1 * 6) + x2) * 10) + x3)), (0, .ref (G.1 + o)), (1, .int x1), (2, .int x2), (3, .int x3)]) B dX7_gives_58 (by decide) rfl ?_
        refine j_aload_n B dX7_gives_60 rfl 2 rfl ?_
        refine gf_RX7_18 B rfl ((ho).1) (ho).2.2.2.1 dX7_gives_61 ?_
        refine j_iload B dX7_gives_64 1 rfl ?_
        refine j_iconst B dX7_gives_66 (v := 1) (by decide) ?_
        refine j_iconst B dX7_gives_67 (v := 0) (by decide) ?_
        refine j_iload B dX7_gives_68 0 rfl ?_
        refine j_bipush B dX7_gives_70 (v := 9) (by decide) ?_
        refine j_mmin B (jt_RX7_39).2.2.1 wst_J9_min_7cf53 wini_RJ9 wcm_min (by decide) (Nat.le_refl _) (Nat.le_refl _) (Nat.le_of_ble_eq_true rfl) dX7_gives_72 ?_
        refine j_mmax B (jt_RX7_45).2.2.1 wst_J9_max_7cf53 wini_RJ9 wcm_max (by decide) (Nat.le_refl _) (Nat.le_refl _) (Nat.le_of_ble_eq_true rfl) dX7_gives_75 ?_
        refine j_iadd B dX7_gives_78 ?_
        refine j_i2b B dX7_gives_79 ?_
        obtain ⟨b4, h⟩ := h_inb h
        refine j_bast B ((ho).2.2.2.2.1) b4 dX7_gives_80 ?_
        refine j_locals [2, 1] rfl ?_
        exact tX7_gives_81 B E hW ho (((((x1 * 6) + x2) * 10) + x3)) ((j_up r3.2 (o + 4) ((((x1 * 6) + x2) * 10) + x3).toNatClampNeg (1 + ((if 0 < ((if 9 < r3.1 then 9 else r3.1) : Int32) then ((if 9 < r3.1 then 9 else r3.1) : Int32) else 0) : Int32)).toInt8.toInt32.toInt8.toInt32))  h
    · replace h := h_neg c h
      refine j_iconst B dX7_gives_28 (v := 0) (by decide) ?_
      obtain ⟨e1, e2⟩ := Prod.mk.inj (Option.some.inj h)
      subst e1
      subst e2
      exact j_iret B E rfl dX7_gives_29 (Nat.le_refl _) (Nat.le_refl _) ⟨rfl, rfl, rfl, rfl⟩
def fX2_sortLookings_131 (x1 : Nat) (k27 : Int32 → Int32 → Int32 → Int32 → Int32 → VI → Option (VI)) (x2 : Int32) (x3 : Int32) (x4 : Int32) (x5 : Int32) (x6 : Int32) (vi : VI) : Option (VI) := k27 x2 x3 x4 x5 (x6 + 1) vi
theorem tX2_sortLookings_131 {G : GT} {sv : SV} {vl0 : VL} {ns : Nat} {Γ : CT} {x1 : Nat} {vi' : VI} {k27 : Int32 → Int32 → Int32 → Int32 → Int32 → VI → Option (VI)} (B : Base G Γ mX2_sortLookings 4 0 0) (E : Ends G Γ 0 0 (QV sv vi' vl0)) (hW : WF sv ns) (h1 : isSill sv x1) (hk27 : ∀ (x2 : Int32) (x3 : Int32) (x4 : Int32) (x5 : Int32) (x6 : Int32) (vi : VI), k27 x2 x3 x4 x5 x6 vi = some (vi') → J G Γ 0 0 27 [(0, .ref (G.1 + 16)), (1, .ref (G.1 + x1)), (2, .int x2), (3, .int x3), (4, .int x4), (5, .int x5), (6, .int x6)] [] sv vi vl0) : ∀ (x2 : Int32) (x3 : Int32) (x4 : Int32) (x5 : Int32) (x6 : Int32) (vi : VI), fX2_sortLookings_131 x1 k27 x2 x3 x4 x5 x6 vi = some (vi') → J G Γ 0 0 131 [(0, .ref (G.1 + 16)), (1, .ref (G.1 + x1)), (2, .int x2), (3, .int x3), (4, .int x4), (5, .int x5), (6, .int x6)] [] sv vi vl0 := by
  intro x2 x3 x4 x5 x6 vi  h
  unfold fX2_sortLookings_131 at h
  refine j_iinc (v := (x6 + 1)) (L' := [(6, .int (x6 + 1)), (0, .ref (G.1 + 16)), (1, .ref (G.1 + x1)), (2, .int x2), (3, .int x3), (4, .int x4), (5, .int x5)]) B dX2_sortLookings_131 6 rfl rfl (by decide) rfl ?_
  refine j_goto (tgt := 27) B dX2_sortLookings_134 (by decide) ?_
  refine j_locals [1, 2, 3, 4, 5, 6, 0] rfl ?_
  exact hk27 (x2) (x3) (x4) (x5) ((x6 + 1)) (vi)  h
def fX2_sortLookings_27 (x1 : Nat) : Nat → Int32 → Int32 → Int32 → Int32 → Int32 → VI → Option (VI)
  | 0, _, _, _, _, _, _ => none
  | F + 1, x2, x3, x4, x5, x6, vi => if 60 ≤ x6 then some (vi) else if (x6 / 10) = x3 then fX2_sortLookings_131 x1 (fX2_sortLookings_27 x1 F) x2 x3 x4 x5 x6 vi else (fX7_gives x1 x2 (x6 / 10) (x6 - x6 / 10 * 10) vi).bind fun r3 => if r3.1 = 0 then if inb x2 13 = true then if inb x2 13 = true then fX2_sortLookings_131 x1 (fX2_sortLookings_27 x1 F) x2 x3 x4 x5 x6 (j_up r3.2 19 x2.toNatClampNeg ((r3.2 19 x2.toNatClampNeg) + 1)) else none else none else if (x6 / 10) = x4 then if inb ((x2 * 10) + r3.1) 130 = true then if inb ((x2 * 10) + r3.1) 130 = true then fX2_sortLookings_131 x1 (fX2_sortLookings_27 x1 F) x2 x3 x4 x5 x6 (j_up r3.2 20 ((x2 * 10) + r3.1).toNatClampNeg ((r3.2 20 ((x2 * 10) + r3.1).toNatClampNeg) + 1)) else none else none else if (x6 / 10) = x5 then if inb ((x2 * 10) + r3.1) 130 = true then if inb ((x2 * 10) + r3.1) 130 = true then fX2_sortLookings_131 x1 (fX2_sortLookings_27 x1 F) x2 x3 x4 x5 x6 (j_up r3.2 21 ((x2 * 10) + r3.1).toNatClampNeg ((r3.2 21 ((x2 * 10) + r3.1).toNatClampNeg) + 1)) else none else none else fX2_sortLookings_131 x1 (fX2_sortLookings_27 x1 F) x2 x3 x4 x5 x6 r3.2
theorem tX2_sortLookings_27 {G : GT} {sv : SV} {vl0 : VL} {ns : Nat} {Γ : CT} {x1 : Nat} {vi' : VI} (B : Base G Γ mX2_sortLookings 4 0 0) (E : Ends G Γ 0 0 (QV sv vi' vl0)) (hW : WF sv ns) (h1 : isSill sv x1) : ∀ (F : Nat) (x2 : Int32) (x3 : Int32) (x4 : Int32) (x5 : Int32) (x6 : Int32) (vi : VI), fX2_sortLookings_27 x1 F x2 x3 x4 x5 x6 vi = some (vi') → J G Γ 0 0 27 [(0, .ref (G.1 + 16)), (1, .ref (G.1 + x1)), (2, .int x2), (3, .int x3), (4, .int x4), (5, .int x5), (6, .int x6)] [] sv vi vl0 := by
  intro F
  induction F with
  | zero =>
    intro x2 x3 x4 x5 x6 vi  h
    cases (show (none : Option (VI)) = some (vi') from h)
  | succ F ih =>
    intro x2 x3 x4 x5 x6 vi  h
    rw [fX2_sortLookings_27] at h
    refine j_iload B dX2_sortLookings_27 6 rfl ?_
    refine j_bipush B dX2_sortLookings_29 (v := 60) (by decide) ?_
    refine j_icmp_ge (tgt := 137) B dX2_sortLookings_31 (by decide) (fun c => ?_) (fun c => ?_)
    · replace h := h_pos c h
      have e1 := Option.some.inj h
      subst e1
      exact j_vret B E rfl dX2_sortLookings_137 (Nat.le_refl _) (Nat.le_refl _) ⟨rfl, rfl, rfl, rfl⟩
    · replace h := h_neg c h
      refine j_iload B dX2_sortLookings_34 6 rfl ?_
      refine j_bipush B dX2_sortLookings_36 (v := 10) (by decide) ?_
      refine j_idiv B dX2_sortLookings_38 (by decide) ?_
      refine j_istore (L' := [(7, .int (x6 / 10)), (0, .ref (G.1 + 16)), (1, .ref (G.1 + x1)), (2, .int x2), (3, .int x3), (4, .int x4), (5, .int x5), (6, .int x6)]) B dX2_sortLookings_39 (by decide) rfl ?_
      refine j_iload B dX2_sortLookings_41 0 rfl ?_
      refine j_iload_n B dX2_sortLookings_43 rfl 4 rfl ?_
      refine j_icmp_ne (tgt := 50) B dX2_sortLookings_44 (by decide) (fun c => ?_) (fun c => ?_)
      · replace h := h_neg c h
        refine j_aload_n B dX2_sortLookings_50 rfl 2 rfl ?_
        refine j_iload_n B dX2_sortLookings_51 rfl 3 rfl ?_
        refine j_iload B dX2_sortLookings_52 0 rfl ?_
        refine j_iload B dX2_sortLookings_54 7 rfl ?_
        refine j_bipush B dX2_sortLookings_56 (v := 10) (by decide) ?_
        refine j_irem B dX2_sortLookings_58 (by decide) ?_
        obtain ⟨r3, hr3, h⟩ := h_bind h
        refine j_cVI (rest := []) B (tX7_gives hW (h1) hr3) cls7 ((h1).1) jt_RX2_80 wi_X7_gives ws_X7_gives rfl (by decide) (Nat.le_refl _) (Nat.le_refl _) rfl (Nat.le_of_ble_eq_true rfl) dX2_sortLookings_59 ?_
        refine j_istore (L' := [(8, .int r3.1), (7, .int (x6 / 10)), (0, .ref (G.1 + 16)), (1, .ref (G.1 + x1)), (2, .int x2), (3, .int x3), (4, .int x4), (5, .int x5), (6, .int x6)]) B dX2_sortLookings_62 (by decide) rfl ?_
        refine j_iload B dX2_sortLookings_64 0 rfl ?_
        refine j_if_ne (tgt := 82) B dX2_sortLookings_66 (by decide) (fun c => ?_) (fun c => ?_)
        · replace h := h_neg c h
          refine j_iload B dX2_sortLookings_82 1 rfl ?_
          refine j_iload B dX2_sortLookings_84 6 rfl ?_
          refine j_icmp_ne (tgt := 108) B dX2_sortLookings_86 (by decide) (fun c => ?_) (fun c => ?_)
          · replace h := h_neg c h
            refine j_iload B dX2_sortLookings_108 1 rfl ?_
            refine j_iload B dX2_sortLookings_110 7 rfl ?_
            refine j_icmp_ne (tgt := 131) B dX2_sortLookings_112 (by decide) (fun c => ?_) (fun c => ?_)
            · replace h := h_neg c h
              refine j_locals [2, 3, 4, 5, 6, 7, 8] rfl ?_
              exact tX2_sortLookings_131 B E hW h1 ih (x2) (x3) (x4) (x5) (x6) (r3.2)  h
            · replace h := h_pos c h
              refine j_aload_n B dX2_sortLookings_115 rfl 2 rfl ?_
              refine gf_RX2_25 B rfl (wf_18 hW) (wf_118 hW) dX2_sortLookings_116 ?_
              refine j_iload_n B dX2_sortLookings_119 rfl 4 rfl ?_
              refine j_bipush B dX2_sortLookings_120 (v := 10) (by decide) ?_
              refine j_imul B dX2_sortLookings_122 ?_
              refine j_iload B dX2_sortLookings_123 0 rfl ?_
              refine j_iadd B dX2_sortLookings_125 ?_
              refine j_dup2 B dX2_sortLookings_126 rfl rfl ?_
              obtain ⟨b4, h⟩ := h_inb h
              refine j_iald B ((wf_23 hW)) b4 dX2_sortLookings_127 ?_
              refine j_iconst B dX2_sortLookings_128 (v := 1) (by decide) ?_
              refine j_iadd B dX2_sortLookings_129 ?_
              obtain ⟨b5, h⟩ := h_inb h
              refine j_iast B ((wf_23 hW)) b5 dX2_sortLookings_130 ?_
              refine j_locals [2, 3, 4, 5, 6, 7, 8] rfl ?_
              exact tX2_sortLookings_131 B E hW h1 ih (x2) (x3) (x4) (x5) (x6) ((j_up r3.2 21 ((x2 * 10) + r3.1).toNatClampNeg ((r3.2 21 ((x2 * 10) + r3.1).toNatClampNeg) + 1)))  h
          · replace h := h_pos c h
            refine j_aload_n B dX2_sortLookings_89 rfl 2 rfl ?_
            refine gf_RX2_22 B rfl (wf_18 hW) (wf_117 hW) dX2_sortLookings_90 ?_
            refine j_iload_n B dX2_sortLookings_93 rfl 4 rfl ?_
            refine j_bipush B dX2_sortLookings_94 (v := 10) (by decide) ?_
            refine j_imul B dX2_sortLookings_96 ?_
            refine j_iload B dX2_sortLookings_97 0 rfl ?_
            refine j_iadd B dX2_sortLookings_99 ?_
            refine j_dup2 B dX2_sortLookings_100 rfl rfl ?_
            obtain ⟨b6, h⟩ := h_inb h
            refine j_iald B ((wf_22 hW)) b6 dX2_sortLookings_101 ?_
            refine j_iconst B dX2_sortLookings_102 (v := 1) (by decide) ?_
            refine j_iadd B dX2_sortLookings_103 ?_
            obtain ⟨b7, h⟩ := h_inb h
            refine j_iast B ((wf_22 hW)) b7 dX2_sortLookings_104 ?_
            refine j_goto (tgt := 131) B dX2_sortLookings_105 (by decide) ?_
            refine j_locals [2, 3, 4, 5, 6, 7, 8] rfl ?_
            exact tX2_sortLookings_131 B E hW h1 ih (x2) (x3) (x4) (x5) (x6) ((j_up r3.2 20 ((x2 * 10) + r3.1).toNatClampNeg ((r3.2 20 ((x2 * 10) + r3.1).toNatClampNeg) + 1)))  h
        · replace h := h_pos c h
          refine j_aload_n B dX2_sortLookings_69 rfl 2 rfl ?_
          refine gf_RX2_19 B rfl (wf_18 hW) (wf_116 hW) dX2_sortLookings_70 ?_
          refine j_iload_n B dX2_sortLookings_73 rfl 4 rfl ?_
          refine j_dup2 B dX2_sortLookings_74 rfl rfl ?_
          obtain ⟨b8, h⟩ := h_inb h
          refine j_iald B ((wf_21 hW)) b8 dX2_sortLookings_75 ?_
          refine j_iconst B dX2_sortLookings_76 (v := 1) (by decide) ?_
          refine j_iadd B dX2_sortLookings_77 ?_
          obtain ⟨b9, h⟩ := h_inb h
          refine j_iast B ((wf_21 hW)) b9 dX2_sortLookings_78 ?_
          refine j_goto (tgt := 131) B dX2_sortLookings_79 (by decide) ?_
          refine j_locals [2, 3, 4, 5, 6, 7, 8] rfl ?_
          exact tX2_sortLookings_131 B E hW h1 ih (x2) (x3) (x4) (x5) (x6) ((j_up r3.2 19 x2.toNatClampNeg ((r3.2 19 x2.toNatClampNeg) + 1)))  h
      · replace h := h_pos c h
        refine j_goto (tgt := 131) B dX2_sortLookings_47 (by decide) ?_
        refine j_locals [1, 2, 3, 4, 5, 6, 7] rfl ?_
        exact tX2_sortLookings_131 B E hW h1 ih (x2) (x3) (x4) (x5) (x6) (vi)  h
def fX2_sortLookings (x1 : Nat) (x2 : Int32) (x3 : Int32) (vi0 : VI) : Option (VI) := (fX3_tells (x1 + 1) (x2 - 1) 0 vi0).bind fun r1 => (fX3_tells (x1 + 1) x2 0 vi0).bind fun r2 => fX2_sortLookings_27 x1 FU x2 x3 r1 r2 0 vi0
theorem tX2_sortLookings {G : GT} {sv : SV} {vi0 : VI} {vl0 : VL} {ns : Nat} {x1 : Nat} {x2 : Int32} {x3 : Int32} {vi' : VI} (hW : WF sv ns) (h1 : isSill sv x1) (h : fX2_sortLookings x1 x2 x3 vi0 = some (vi')) : Call G mX2_sortLookings 4 0 0 [.ref (G.1 + 16), .ref (G.1 + x1), .int x2, .int x3] sv vi0 vl0 (QV sv vi' vl0) := by
  refine j_mk (by decide +kernel) (Nat.le_of_ble_eq_true rfl) (fun Γ B E => ?_)
  show J G Γ 0 0 0 [(0, .ref (G.1 + 16)), (1, .ref (G.1 + x1)), (2, .int x2), (3, .int x3)] [] sv vi0 vl0
  unfold fX2_sortLookings at h
  refine j_aload_n B dX2_sortLookings_0 rfl 1 rfl ?_
  refine gf_RX2_28 B rfl ((h1).1) (h1).2.2.1 dX2_sortLookings_1 ?_
  refine j_iload_n B dX2_sortLookings_4 rfl 2 rfl ?_
  refine j_iconst B dX2_sortLookings_5 (v := 1) (by decide) ?_
  refine j_isub B dX2_sortLookings_6 ?_
  refine j_iconst B dX2_sortLookings_7 (v := 0) (by decide) ?_
  obtain ⟨r1, hr1, h⟩ := h_bind h
  refine j_cVI (rest := []) B (tX3_tells ((h1).2.2.2.2.2) hr1) cls3 (((h1).2.2.2.2.2).1) jt_RX2_84 wi_X3_tells ws_X3_tells rfl (by decide) (Nat.le_refl _) (Nat.le_refl _) rfl (Nat.le_of_ble_eq_true rfl) dX2_sortLookings_8 ?_
  refine j_istore (L' := [(4, .int r1), (0, .ref (G.1 + 16)), (1, .ref (G.1 + x1)), (2, .int x2), (3, .int x3)]) B dX2_sortLookings_11 (by decide) rfl ?_
  refine j_aload_n B dX2_sortLookings_13 rfl 2 rfl ?_
  refine gf_RX2_28 B rfl ((h1).1) (h1).2.2.1 dX2_sortLookings_14 ?_
  refine j_iload_n B dX2_sortLookings_17 rfl 3 rfl ?_
  refine j_iconst B dX2_sortLookings_18 (v := 0) (by decide) ?_
  obtain ⟨r2, hr2, h⟩ := h_bind h
  refine j_cVI (rest := []) B (tX3_tells ((h1).2.2.2.2.2) hr2) cls3 (((h1).2.2.2.2.2).1) jt_RX2_84 wi_X3_tells ws_X3_tells rfl (by decide) (Nat.le_refl _) (Nat.le_refl _) rfl (Nat.le_of_ble_eq_true rfl) dX2_sortLookings_19 ?_
  refine j_istore (L' := [(5, .int r2), (4, .int r1), (0, .ref (G.1 + 16)), (1, .ref (G.1 + x1)), (2, .int x2), (3, .int x3)]) B dX2_sortLookings_22 (by decide) rfl ?_
  refine j_iconst B dX2_sortLookings_24 (v := 0) (by decide) ?_
  refine j_istore (L' := [(6, .int 0), (5, .int r2), (4, .int r1), (0, .ref (G.1 + 16)), (1, .ref (G.1 + x1)), (2, .int x2), (3, .int x3)]) B dX2_sortLookings_25 (by decide) rfl ?_
  refine j_locals [3, 4, 5, 6, 2, 1, 0] rfl ?_
  exact tX2_sortLookings_27 B E hW h1 FU (x2) (x3) (r1) (r2) (0) (vi0)  h
def fX2_layersAt_2 (vi0 : VI) : Nat → Int32 → Int32 → Option (Int32)
  | 0, _, _ => none
  | F + 1, x1, x2 => if (vi0 16 5) ≤ x2 then some (x2) else if inb x2 13 = true then if x1 ≤ (vi0 18 x2.toNatClampNeg) then some (x2) else fX2_layersAt_2 vi0 F x1 (x2 + 1) else none
theorem tX2_layersAt_2 {G : GT} {sv : SV} {vi0 : VI} {vl0 : VL} {ns : Nat} {Γ : CT} {r : Int32} (B : Base G Γ mX2_layersAt 0 0 0) (E : Ends G Γ 0 0 (QI r sv vi0 vl0)) (hW : WF sv ns) : ∀ (F : Nat) (x1 : Int32) (x2 : Int32), fX2_layersAt_2 vi0 F x1 x2 = some (r) → J G Γ 0 0 2 [(0, .ref (G.1 + 16)), (1, .int x1), (2, .int x2)] [] sv vi0 vl0 := by
  intro F
  induction F with
  | zero =>
    intro x1 x2  h
    cases (show (none : Option (Int32)) = some (r) from h)
  | succ F ih =>
    intro x1 x2  h
    rw [fX2_layersAt_2] at h
    refine j_iload_n B dX2_layersAt_2 rfl 2 rfl ?_
    refine j_aload_n B dX2_layersAt_3 rfl 0 rfl ?_
    refine gf_RX2_40 B rfl (wf_18 hW) dX2_layersAt_4 ?_
    refine j_icmp_ge (tgt := 26) B dX2_layersAt_7 (by decide) (fun c => ?_) (fun c => ?_)
    · replace h := h_pos c h
      refine j_iload_n B dX2_layersAt_26 rfl 2 rfl ?_
      have e1 := Option.some.inj h
      subst e1
      exact j_iret B E rfl dX2_layersAt_27 (Nat.le_refl _) (Nat.le_refl _) ⟨rfl, rfl, rfl, rfl⟩
    · replace h := h_neg c h
      refine j_aload_n B dX2_layersAt_10 rfl 0 rfl ?_
      refine gf_RX2_15 B rfl (wf_18 hW) (wf_115 hW) dX2_layersAt_11 ?_
      refine j_iload_n B dX2_layersAt_14 rfl 2 rfl ?_
      obtain ⟨b1, h⟩ := h_inb h
      refine j_iald B ((wf_20 hW)) b1 dX2_layersAt_15 ?_
      refine j_iload_n B dX2_layersAt_16 rfl 1 rfl ?_
      refine j_icmp_ge (tgt := 26) B dX2_layersAt_17 (by decide) (fun c => ?_) (fun c => ?_)
      · replace h := h_pos c h
        refine j_iload_n B dX2_layersAt_26 rfl 2 rfl ?_
        have e1 := Option.some.inj h
        subst e1
        exact j_iret B E rfl dX2_layersAt_27 (Nat.le_refl _) (Nat.le_refl _) ⟨rfl, rfl, rfl, rfl⟩
      · replace h := h_neg c h
        refine j_iinc (v := (x2 + 1)) (L' := [(2, .int (x2 + 1)), (0, .ref (G.1 + 16)), (1, .int x1)]) B dX2_layersAt_20 2 rfl rfl (by decide) rfl ?_
        refine j_goto (tgt := 2) B dX2_layersAt_23 (by decide) ?_
        refine j_locals [1, 2, 0] rfl ?_
        exact ih (x1) ((x2 + 1))  h
def fX2_layersAt (x1 : Int32) (vi0 : VI) : Option (Int32) := fX2_layersAt_2 vi0 FU x1 0
theorem tX2_layersAt {G : GT} {sv : SV} {vi0 : VI} {vl0 : VL} {ns : Nat} {x1 : Int32} {r : Int32} (hW : WF sv ns) (h : fX2_layersAt x1 vi0 = some (r)) : Call G mX2_layersAt 0 0 0 [.ref (G.1 + 16), .int x1] sv vi0 vl0 (QI r sv vi0 vl0) := by
  refine j_mk (by decide +kernel) (Nat.le_of_ble_eq_true rfl) (fun Γ B E => ?_)
  show J G Γ 0 0 0 [(0, .ref (G.1 + 16)), (1, .int x1)] [] sv vi0 vl0
  unfold fX2_layersAt at h
  refine j_iconst B dX2_layersAt_0 (v := 0) (by decide) ?_
  refine j_istore_n (L' := [(2, .int 0), (0, .ref (G.1 + 16)), (1, .int x1)]) B dX2_layersAt_1 rfl (by decide) rfl ?_
  refine j_locals [1, 2, 0] rfl ?_
  exact tX2_layersAt_2 B E hW FU (x1) (0)  h
def fX2_waysFrom_25 (vl0 : VL) (x1 : Int32) (x2 : Int32) (s0 : Int32) : Option (Int64) := if s0 = 0 then some (0) else if inb ((x2 * 82) + x1) 820 = true then some ((vl0 17 ((x2 * 82) + x1).toNatClampNeg)) else none
theorem tX2_waysFrom_25 {G : GT} {sv : SV} {vi0 : VI} {vl0 : VL} {ns : Nat} {Γ : CT} {r : Int64} (B : Base G Γ mX2_waysFrom 0 0 0) (E : Ends G Γ 0 0 (QJ r sv vi0 vl0)) (hW : WF sv ns) : ∀ (x1 : Int32) (x2 : Int32) (s0 : Int32), fX2_waysFrom_25 vl0 x1 x2 s0 = some (r) → J G Γ 0 0 25 [(0, .ref (G.1 + 16)), (1, .int x1), (2, .int x2)] [.int s0] sv vi0 vl0 := by
  intro x1 x2 s0  h
  unfold fX2_waysFrom_25 at h
  refine j_istore_n (L' := [(3, .int s0), (0, .ref (G.1 + 16)), (1, .int x1), (2, .int x2)]) B dX2_waysFrom_25 rfl (by decide) rfl ?_
  refine j_iload_n B dX2_waysFrom_26 rfl 0 rfl ?_
  refine j_if_eq (tgt := 44) B dX2_waysFrom_27 (by decide) (fun c => ?_) (fun c => ?_)
  · replace h := h_pos c h
    refine j_lconst B dX2_waysFrom_44 (v := 0) rfl ?_
    have e1 := Option.some.inj h
    subst e1
    exact j_lret B E rfl dX2_waysFrom_45 (Nat.le_refl _) (Nat.le_refl _) ⟨rfl, rfl, rfl, rfl⟩
  · replace h := h_neg c h
    refine j_aload_n B dX2_waysFrom_30 rfl 1 rfl ?_
    refine gf_RX2_11 B rfl (wf_18 hW) (wf_114 hW) dX2_waysFrom_31 ?_
    refine j_iload_n B dX2_waysFrom_34 rfl 3 rfl ?_
    refine j_bipush B dX2_waysFrom_35 (v := 82) (by decide) ?_
    refine j_imul B dX2_waysFrom_37 ?_
    refine j_iload_n B dX2_waysFrom_38 rfl 2 rfl ?_
    refine j_iadd B dX2_waysFrom_39 ?_
    obtain ⟨b1, h⟩ := h_inb h
    refine j_lald B ((wf_19 hW)) b1 dX2_waysFrom_40 ?_
    refine j_goto (tgt := 45) B dX2_waysFrom_41 (by decide) ?_
    have e1 := Option.some.inj h
    subst e1
    exact j_lret B E rfl dX2_waysFrom_45 (Nat.le_refl _) (Nat.le_refl _) ⟨rfl, rfl, rfl, rfl⟩
def fX2_waysFrom_24 (vl0 : VL) (x1 : Int32) (x2 : Int32) : Option (Int64) := fX2_waysFrom_25 vl0 x1 x2 0
theorem tX2_waysFrom_24 {G : GT} {sv : SV} {vi0 : VI} {vl0 : VL} {ns : Nat} {Γ : CT} {r : Int64} (B : Base G Γ mX2_waysFrom 0 0 0) (E : Ends G Γ 0 0 (QJ r sv vi0 vl0)) (hW : WF sv ns) : ∀ (x1 : Int32) (x2 : Int32), fX2_waysFrom_24 vl0 x1 x2 = some (r) → J G Γ 0 0 24 [(0, .ref (G.1 + 16)), (1, .int x1), (2, .int x2)] [] sv vi0 vl0 := by
  intro x1 x2  h
  unfold fX2_waysFrom_24 at h
  refine j_iconst B dX2_waysFrom_24 (v := 0) (by decide) ?_
  refine j_locals [0, 1, 2] rfl ?_
  exact tX2_waysFrom_25 B E hW (x1) (x2) (0)  h
def fX2_waysFrom (x1 : Int32) (x2 : Int32) (vl0 : VL) : Option (Int64) := if x1 < 0 then fX2_waysFrom_24 vl0 x1 x2 else if 81 < x1 then fX2_waysFrom_24 vl0 x1 x2 else if x2 < 0 then fX2_waysFrom_24 vl0 x1 x2 else if 9 < x2 then fX2_waysFrom_24 vl0 x1 x2 else fX2_waysFrom_25 vl0 x1 x2 1
theorem tX2_waysFrom {G : GT} {sv : SV} {vi0 : VI} {vl0 : VL} {ns : Nat} {x1 : Int32} {x2 : Int32} {r : Int64} (hW : WF sv ns) (h : fX2_waysFrom x1 x2 vl0 = some (r)) : Call G mX2_waysFrom 0 0 0 [.ref (G.1 + 16), .int x1, .int x2] sv vi0 vl0 (QJ r sv vi0 vl0) := by
  refine j_mk (by decide +kernel) (Nat.le_of_ble_eq_true rfl) (fun Γ B E => ?_)
  show J G Γ 0 0 0 [(0, .ref (G.1 + 16)), (1, .int x1), (2, .int x2)] [] sv vi0 vl0
  unfold fX2_waysFrom at h
  refine j_iload_n B dX2_waysFrom_0 rfl 1 rfl ?_
  refine j_if_lt (tgt := 24) B dX2_waysFrom_1 (by decide) (fun c => ?_) (fun c => ?_)
  · replace h := h_pos c h
    refine j_locals [0, 1, 2] rfl ?_
    exact tX2_waysFrom_24 B E hW (x1) (x2)  h
  · replace h := h_neg c h
    refine j_iload_n B dX2_waysFrom_4 rfl 1 rfl ?_
    refine j_bipush B dX2_waysFrom_5 (v := 81) (by decide) ?_
    refine j_icmp_gt (tgt := 24) B dX2_waysFrom_7 (by decide) (fun c => ?_) (fun c => ?_)
    · replace h := h_pos c h
      refine j_locals [0, 1, 2] rfl ?_
      exact tX2_waysFrom_24 B E hW (x1) (x2)  h
    · replace h := h_neg c h
      refine j_iload_n B dX2_waysFrom_10 rfl 2 rfl ?_
      refine j_if_lt (tgt := 24) B dX2_waysFrom_11 (by decide) (fun c => ?_) (fun c => ?_)
      · replace h := h_pos c h
        refine j_locals [0, 1, 2] rfl ?_
        exact tX2_waysFrom_24 B E hW (x1) (x2)  h
      · replace h := h_neg c h
        refine j_iload_n B dX2_waysFrom_14 rfl 2 rfl ?_
        refine j_bipush B dX2_waysFrom_15 (v := 9) (by decide) ?_
        refine j_icmp_gt (tgt := 24) B dX2_waysFrom_17 (by decide) (fun c => ?_) (fun c => ?_)
        · replace h := h_pos c h
          refine j_locals [0, 1, 2] rfl ?_
          exact tX2_waysFrom_24 B E hW (x1) (x2)  h
        · replace h := h_neg c h
          refine j_iconst B dX2_waysFrom_20 (v := 1) (by decide) ?_
          refine j_goto (tgt := 25) B dX2_waysFrom_21 (by decide) ?_
          refine j_locals [0, 1, 2] rfl ?_
          exact tX2_waysFrom_25 B E hW (x1) (x2) (1)  h
def fX2_mayBegin (x1 : Int32) (x2 : Int32) (x3 : Int32) (vi0 : VI) : Option (Bool) := if (vi0 16 5) ≤ x1 then some (false) else if inb x1 13 = true then if x2 = (vi0 18 x1.toNatClampNeg) then if inb (x1 + 1) 13 = true then if (vi0 18 (x1 + 1).toNatClampNeg) < (x2 + x3) then some (false) else some (true) else none else some (false) else none
theorem tX2_mayBegin {G : GT} {sv : SV} {vi0 : VI} {vl0 : VL} {ns : Nat} {x1 : Int32} {x2 : Int32} {x3 : Int32} {r : Bool} (hW : WF sv ns) (h : fX2_mayBegin x1 x2 x3 vi0 = some (r)) : Call G mX2_mayBegin 0 0 0 [.ref (G.1 + 16), .int x1, .int x2, .int x3] sv vi0 vl0 (QI (b2i r) sv vi0 vl0) := by
  refine j_mk (by decide +kernel) (Nat.le_of_ble_eq_true rfl) (fun Γ B E => ?_)
  show J G Γ 0 0 0 [(0, .ref (G.1 + 16)), (1, .int x1), (2, .int x2), (3, .int x3)] [] sv vi0 vl0
  unfold fX2_mayBegin at h
  refine j_iload_n B dX2_mayBegin_0 rfl 1 rfl ?_
  refine j_aload_n B dX2_mayBegin_1 rfl 0 rfl ?_
  refine gf_RX2_40 B rfl (wf_18 hW) dX2_mayBegin_2 ?_
  refine j_icmp_ge (tgt := 36) B dX2_mayBegin_5 (by decide) (fun c => ?_) (fun c => ?_)
  · replace h := h_pos c h
    refine j_iconst B dX2_mayBegin_36 (v := 0) (by decide) ?_
    have e1 := Option.some.inj h
    subst e1
    exact j_zret B E rfl (Or.inl rfl) dX2_mayBegin_37 (Nat.le_refl _) (Nat.le_refl _) ⟨rfl, rfl, rfl, rfl⟩
  · replace h := h_neg c h
    refine j_iload_n B dX2_mayBegin_8 rfl 2 rfl ?_
    refine j_aload_n B dX2_mayBegin_9 rfl 0 rfl ?_
    refine gf_RX2_15 B rfl (wf_18 hW) (wf_115 hW) dX2_mayBegin_10 ?_
    refine j_iload_n B dX2_mayBegin_13 rfl 1 rfl ?_
    obtain ⟨b1, h⟩ := h_inb h
    refine j_iald B ((wf_20 hW)) b1 dX2_mayBegin_14 ?_
    refine j_icmp_ne (tgt := 36) B dX2_mayBegin_15 (by decide) (fun c => ?_) (fun c => ?_)
    · replace h := h_neg c h
      refine j_iconst B dX2_mayBegin_36 (v := 0) (by decide) ?_
      have e1 := Option.some.inj h
      subst e1
      exact j_zret B E rfl (Or.inl rfl) dX2_mayBegin_37 (Nat.le_refl _) (Nat.le_refl _) ⟨rfl, rfl, rfl, rfl⟩
    · replace h := h_pos c h
      refine j_iload_n B dX2_mayBegin_18 rfl 2 rfl ?_
      refine j_iload_n B dX2_mayBegin_19 rfl 3 rfl ?_
      refine j_iadd B dX2_mayBegin_20 ?_
      refine j_aload_n B dX2_mayBegin_21 rfl 0 rfl ?_
      refine gf_RX2_15 B rfl (wf_18 hW) (wf_115 hW) dX2_mayBegin_22 ?_
      refine j_iload_n B dX2_mayBegin_25 rfl 1 rfl ?_
      refine j_iconst B dX2_mayBegin_26 (v := 1) (by decide) ?_
      refine j_iadd B dX2_mayBegin_27 ?_
      obtain ⟨b2, h⟩ := h_inb h
      refine j_iald B ((wf_20 hW)) b2 dX2_mayBegin_28 ?_
      refine j_icmp_gt (tgt := 36) B dX2_mayBegin_29 (by decide) (fun c => ?_) (fun c => ?_)
      · replace h := h_pos c h
        refine j_iconst B dX2_mayBegin_36 (v := 0) (by decide) ?_
        have e1 := Option.some.inj h
        subst e1
        exact j_zret B E rfl (Or.inl rfl) dX2_mayBegin_37 (Nat.le_refl _) (Nat.le_refl _) ⟨rfl, rfl, rfl, rfl⟩
      · replace h := h_neg c h
        refine j_iconst B dX2_mayBegin_32 (v := 1) (by decide) ?_
        refine j_goto (tgt := 37) B dX2_mayBegin_33 (by decide) ?_
        have e1 := Option.some.inj h
        subst e1
        exact j_zret B E rfl (Or.inr rfl) dX2_mayBegin_37 (Nat.le_refl _) (Nat.le_refl _) ⟨rfl, rfl, rfl, rfl⟩
def fX2_lookingsThatLay (x1 : Int32) (x2 : Int32) (x3 : Int32) (vi0 : VI) : Option (Int32) := if inb x1 13 = true then if (vi0 18 x1.toNatClampNeg) < (x2 + x3) then (fX2_mayBegin x1 x2 x3 vi0).bind fun r2 => if r2 = true then if inb ((x1 * 10) + x3) 130 = true then some ((vi0 21 ((x1 * 10) + x3).toNatClampNeg)) else none else some (0) else if inb ((x1 * 10) + x3) 130 = true then some ((vi0 20 ((x1 * 10) + x3).toNatClampNeg)) else none else none
theorem tX2_lookingsThatLay {G : GT} {sv : SV} {vi0 : VI} {vl0 : VL} {ns : Nat} {x1 : Int32} {x2 : Int32} {x3 : Int32} {r : Int32} (hW : WF sv ns) (h : fX2_lookingsThatLay x1 x2 x3 vi0 = some (r)) : Call G mX2_lookingsThatLay 1 0 0 [.ref (G.1 + 16), .int x1, .int x2, .int x3] sv vi0 vl0 (QI r sv vi0 vl0) := by
  refine j_mk (by decide +kernel) (Nat.le_of_ble_eq_true rfl) (fun Γ B E => ?_)
  show J G Γ 0 0 0 [(0, .ref (G.1 + 16)), (1, .int x1), (2, .int x2), (3, .int x3)] [] sv vi0 vl0
  unfold fX2_lookingsThatLay at h
  refine j_iload_n B dX2_lookingsThatLay_0 rfl 2 rfl ?_
  refine j_iload_n B dX2_lookingsThatLay_1 rfl 3 rfl ?_
  refine j_iadd B dX2_lookingsThatLay_2 ?_
  refine j_aload_n B dX2_lookingsThatLay_3 rfl 0 rfl ?_
  refine gf_RX2_15 B rfl (wf_18 hW) (wf_115 hW) dX2_lookingsThatLay_4 ?_
  refine j_iload_n B dX2_lookingsThatLay_7 rfl 1 rfl ?_
  obtain ⟨b1, h⟩ := h_inb h
  refine j_iald B ((wf_20 hW)) b1 dX2_lookingsThatLay_8 ?_
  refine j_icmp_gt (tgt := 24) B dX2_lookingsThatLay_9 (by decide) (fun c => ?_) (fun c => ?_)
  · replace h := h_pos c h
    refine j_aload_n B dX2_lookingsThatLay_24 rfl 0 rfl ?_
    refine j_iload_n B dX2_lookingsThatLay_25 rfl 1 rfl ?_
    refine j_iload_n B dX2_lookingsThatLay_26 rfl 2 rfl ?_
    refine j_iload_n B dX2_lookingsThatLay_27 rfl 3 rfl ?_
    obtain ⟨r2, hr2, h⟩ := h_bind h
    refine j_cVI (rest := []) B (tX2_mayBegin hW hr2) cls2 (wf_18 hW) jt_RX2_88 wi_X2_mayBegin ws_X2_mayBegin rfl (by decide) (Nat.le_refl _) (Nat.le_refl _) rfl (Nat.le_of_ble_eq_true rfl) dX2_lookingsThatLay_28 ?_
    refine j_if_eq (tgt := 48) B dX2_lookingsThatLay_31 (by decide) (fun c => ?_) (fun c => ?_)
    · replace h := h_neg (b2i_0 c) h
      refine j_iconst B dX2_lookingsThatLay_48 (v := 0) (by decide) ?_
      have e1 := Option.some.inj h
      subst e1
      exact j_iret B E rfl dX2_lookingsThatLay_49 (Nat.le_refl _) (Nat.le_refl _) ⟨rfl, rfl, rfl, rfl⟩
    · replace h := h_pos (b2i_1 c) h
      refine j_aload_n B dX2_lookingsThatLay_34 rfl 0 rfl ?_
      refine gf_RX2_25 B rfl (wf_18 hW) (wf_118 hW) dX2_lookingsThatLay_35 ?_
      refine j_iload_n B dX2_lookingsThatLay_38 rfl 1 rfl ?_
      refine j_bipush B dX2_lookingsThatLay_39 (v := 10) (by decide) ?_
      refine j_imul B dX2_lookingsThatLay_41 ?_
      refine j_iload_n B dX2_lookingsThatLay_42 rfl 3 rfl ?_
      refine j_iadd B dX2_lookingsThatLay_43 ?_
      obtain ⟨b3, h⟩ := h_inb h
      refine j_iald B ((wf_23 hW)) b3 dX2_lookingsThatLay_44 ?_
      refine j_goto (tgt := 49) B dX2_lookingsThatLay_45 (by decide) ?_
      have e1 := Option.some.inj h
      subst e1
      exact j_iret B E rfl dX2_lookingsThatLay_49 (Nat.le_refl _) (Nat.le_refl _) ⟨rfl, rfl, rfl, rfl⟩
  · replace h := h_neg c h
    refine j_aload_n B dX2_lookingsThatLay_12 rfl 0 rfl ?_
    refine gf_RX2_22 B rfl (wf_18 hW) (wf_117 hW) dX2_lookingsThatLay_13 ?_
    refine j_iload_n B dX2_lookingsThatLay_16 rfl 1 rfl ?_
    refine j_bipush B dX2_lookingsThatLay_17 (v := 10) (by decide) ?_
    refine j_imul B dX2_lookingsThatLay_19 ?_
    refine j_iload_n B dX2_lookingsThatLay_20 rfl 3 rfl ?_
    refine j_iadd B dX2_lookingsThatLay_21 ?_
    obtain ⟨b4, h⟩ := h_inb h
    refine j_iald B ((wf_22 hW)) b4 dX2_lookingsThatLay_22 ?_
    have e1 := Option.some.inj h
    subst e1
    exact j_iret B E rfl dX2_lookingsThatLay_23 (Nat.le_refl _) (Nat.le_refl _) ⟨rfl, rfl, rfl, rfl⟩
def fX2_workOutWith_108 (vi0 : VI) (k14 : Int32 → Int32 → VL → Option (VL)) (x1 : Int32) (x2 : Int32) (x4 : Int64) (vl : VL) : Option (VL) := if inb ((x1 * 82) + x2) 820 = true then k14 x1 (x2 + 1) (j_up vl 17 ((x1 * 82) + x2).toNatClampNeg x4) else none
theorem tX2_workOutWith_108 {G : GT} {sv : SV} {vi0 : VI} {ns : Nat} {Γ : CT} {vl' : VL} {k14 : Int32 → Int32 → VL → Option (VL)} (B : Base G Γ mX2_workOutWith 2 0 0) (E : Ends G Γ 0 0 (QV sv vi0 vl')) (hW : WF sv ns) (hk14 : ∀ (x1 : Int32) (x2 : Int32) (vl : VL), k14 x1 x2 vl = some (vl') → J G Γ 0 0 14 [(0, .ref (G.1 + 16)), (1, .int x1), (2, .int x2)] [] sv vi0 vl) : ∀ (x1 : Int32) (x2 : Int32) (x4 : Int64) (vl : VL), fX2_workOutWith_108 vi0 k14 x1 x2 x4 vl = some (vl') → J G Γ 0 0 108 [(0, .ref (G.1 + 16)), (1, .int x1), (2, .int x2), (4, .long x4)] [] sv vi0 vl := by
  intro x1 x2 x4 vl  h
  unfold fX2_workOutWith_108 at h
  refine j_aload_n B dX2_workOutWith_108 rfl 0 rfl ?_
  refine gf_RX2_11 B rfl (wf_18 hW) (wf_114 hW) dX2_workOutWith_109 ?_
  refine j_iload_n B dX2_workOutWith_112 rfl 1 rfl ?_
  refine j_bipush B dX2_workOutWith_113 (v := 82) (by decide) ?_
  refine j_imul B dX2_workOutWith_115 ?_
  refine j_iload_n B dX2_workOutWith_116 rfl 2 rfl ?_
  refine j_iadd B dX2_workOutWith_117 ?_
  refine j_lload B dX2_workOutWith_118 3 rfl ?_
  obtain ⟨b4, h⟩ := h_inb h
  refine j_last B ((wf_19 hW)) b4 dX2_workOutWith_120 ?_
  refine j_iinc (v := (x2 + 1)) (L' := [(2, .int (x2 + 1)), (0, .ref (G.1 + 16)), (1, .int x1), (4, .long x4)]) B dX2_workOutWith_121 2 rfl rfl (by decide) rfl ?_
  refine j_goto (tgt := 14) B dX2_workOutWith_124 (by decide) ?_
  refine j_locals [1, 2, 0] rfl ?_
  exact hk14 (x1) ((x2 + 1)) ((j_up vl 17 ((x1 * 82) + x2).toNatClampNeg x4))  h
def fX2_workOutWith_102 (vi0 : VI) (k14 : Int32 → Int32 → VL → Option (VL)) (k49 : Int32 → Int32 → Int32 → Int64 → Int32 → VL → Option (VL)) (x1 : Int32) (x2 : Int32) (x3 : Int32) (x4 : Int64) (x6 : Int32) (vl : VL) : Option (VL) := k49 x1 x2 x3 x4 (x6 + 1) vl
theorem tX2_workOutWith_102 {G : GT} {sv : SV} {vi0 : VI} {ns : Nat} {Γ : CT} {vl' : VL} {k14 : Int32 → Int32 → VL → Option (VL)} {k49 : Int32 → Int32 → Int32 → Int64 → Int32 → VL → Option (VL)} (B : Base G Γ mX2_workOutWith 2 0 0) (E : Ends G Γ 0 0 (QV sv vi0 vl')) (hW : WF sv ns) (hk14 : ∀ (x1 : Int32) (x2 : Int32) (vl : VL), k14 x1 x2 vl = some (vl') → J G Γ 0 0 14 [(0, .ref (G.1 + 16)), (1, .int x1), (2, .int x2)] [] sv vi0 vl) (hk49 : ∀ (x1 : Int32) (x2 : Int32) (x3 : Int32) (x4 : Int64) (x6 : Int32) (vl : VL), k49 x1 x2 x3 x4 x6 vl = some (vl') → J G Γ 0 0 49 [(0, .ref (G.1 + 16)), (1, .int x1), (2, .int x2), (3, .int x3), (4, .long x4), (6, .int x6)] [] sv vi0 vl) : ∀ (x1 : Int32) (x2 : Int32) (x3 : Int32) (x4 : Int64) (x6 : Int32) (vl : VL), fX2_workOutWith_102 vi0 k14 k49 x1 x2 x3 x4 x6 vl = some (vl') → J G Γ 0 0 102 [(0, .ref (G.1 + 16)), (1, .int x1), (2, .int x2), (3, .int x3), (4, .long x4), (6, .int x6)] [] sv vi0 vl := by
  intro x1 x2 x3 x4 x6 vl  h
  unfold fX2_workOutWith_102 at h
  refine j_iinc (v := (x6 + 1)) (L' := [(6, .int (x6 + 1)), (0, .ref (G.1 + 16)), (1, .int x1), (2, .int x2), (3, .int x3), (4, .long x4)]) B dX2_workOutWith_102 5 rfl rfl (by decide) rfl ?_
  refine j_goto (tgt := 49) B dX2_workOutWith_105 (by decide) ?_
  refine j_locals [1, 2, 3, 4, 5, 0] rfl ?_
  exact hk49 (x1) (x2) (x3) (x4) ((x6 + 1)) (vl)  h
def fX2_workOutWith_49 (vi0 : VI) (k14 : Int32 → Int32 → VL → Option (VL)) : Nat → Int32 → Int32 → Int32 → Int64 → Int32 → VL → Option (VL)
  | 0, _, _, _, _, _, _ => none
  | F + 1, x1, x2, x3, x4, x6, vl => if 10 ≤ x6 then fX2_workOutWith_108 vi0 k14 x1 x2 x4 vl else if (vi0 16 6) < (x2 + x6) then fX2_workOutWith_108 vi0 k14 x1 x2 x4 vl else (fX2_lookingsThatLay x3 x2 x6 vi0).bind fun r5 => if r5 ≤ 0 then fX2_workOutWith_102 vi0 k14 (fX2_workOutWith_49 vi0 k14 F) x1 x2 x3 x4 x6 vl else (fX2_waysFrom (x2 + x6) (x1 - 1) vl).bind fun r6 => fX2_workOutWith_102 vi0 k14 (fX2_workOutWith_49 vi0 k14 F) x1 x2 x3 (x4 + (r5.toInt64 * r6)) x6 vl
theorem tX2_workOutWith_49 {G : GT} {sv : SV} {vi0 : VI} {ns : Nat} {Γ : CT} {vl' : VL} {k14 : Int32 → Int32 → VL → Option (VL)} (B : Base G Γ mX2_workOutWith 2 0 0) (E : Ends G Γ 0 0 (QV sv vi0 vl')) (hW : WF sv ns) (hk14 : ∀ (x1 : Int32) (x2 : Int32) (vl : VL), k14 x1 x2 vl = some (vl') → J G Γ 0 0 14 [(0, .ref (G.1 + 16)), (1, .int x1), (2, .int x2)] [] sv vi0 vl) : ∀ (F : Nat) (x1 : Int32) (x2 : Int32) (x3 : Int32) (x4 : Int64) (x6 : Int32) (vl : VL), fX2_workOutWith_49 vi0 k14 F x1 x2 x3 x4 x6 vl = some (vl') → J G Γ 0 0 49 [(0, .ref (G.1 + 16)), (1, .int x1), (2, .int x2), (3, .int x3), (4, .long x4), (6, .int x6)] [] sv vi0 vl := by
  intro F
  induction F with
  | zero =>
    intro x1 x2 x3 x4 x6 vl  h
    cases (show (none : Option (VL)) = some (vl') from h)
  | succ F ih =>
    intro x1 x2 x3 x4 x6 vl  h
    rw [fX2_workOutWith_49] at h
    refine j_iload B dX2_workOutWith_49 5 rfl ?_
    refine j_bipush B dX2_workOutWith_51 (v := 10) (by decide) ?_
    refine j_icmp_ge (tgt := 108) B dX2_workOutWith_53 (by decide) (fun c => ?_) (fun c => ?_)
    · replace h := h_pos c h
      refine j_locals [0, 1, 2, 4] rfl ?_
      exact tX2_workOutWith_108 B E hW hk14 (x1) (x2) (x4) (vl)  h
    · replace h := h_neg c h
      refine j_iload_n B dX2_workOutWith_56 rfl 2 rfl ?_
      refine j_iload B dX2_workOutWith_57 5 rfl ?_
      refine j_iadd B dX2_workOutWith_59 ?_
      refine j_aload_n B dX2_workOutWith_60 rfl 0 rfl ?_
      refine gf_RX2_45 B rfl (wf_18 hW) dX2_workOutWith_61 ?_
      refine j_icmp_gt (tgt := 108) B dX2_workOutWith_64 (by decide) (fun c => ?_) (fun c => ?_)
      · replace h := h_pos c h
        refine j_locals [0, 1, 2, 4] rfl ?_
        exact tX2_workOutWith_108 B E hW hk14 (x1) (x2) (x4) (vl)  h
      · replace h := h_neg c h
        refine j_aload_n B dX2_workOutWith_67 rfl 0 rfl ?_
        refine j_iload_n B dX2_workOutWith_68 rfl 3 rfl ?_
        refine j_iload_n B dX2_workOutWith_69 rfl 2 rfl ?_
        refine j_iload B dX2_workOutWith_70 5 rfl ?_
        obtain ⟨r5, hr5, h⟩ := h_bind h
        refine j_cVI (rest := []) B (tX2_lookingsThatLay hW hr5) cls2 (wf_18 hW) jt_RX2_97 wi_X2_lookingsThatLay ws_X2_lookingsThatLay rfl (by decide) (Nat.le_refl _) (Nat.le_refl _) rfl (Nat.le_of_ble_eq_true rfl) dX2_workOutWith_72 ?_
        refine j_istore (L' := [(7, .int r5), (0, .ref (G.1 + 16)), (1, .int x1), (2, .int x2), (3, .int x3), (4, .long x4), (6, .int x6)]) B dX2_workOutWith_75 (by decide) rfl ?_
        refine j_iload B dX2_workOutWith_77 0 rfl ?_
        refine j_if_le (tgt := 102) B dX2_workOutWith_79 (by decide) (fun c => ?_) (fun c => ?_)
        · replace h := h_pos c h
          refine j_locals [1, 2, 3, 4, 5, 6] rfl ?_
          exact tX2_workOutWith_102 B E hW hk14 ih (x1) (x2) (x3) (x4) (x6) (vl)  h
        · replace h := h_neg c h
          refine j_lload B dX2_workOutWith_82 5 rfl ?_
          refine j_iload B dX2_workOutWith_84 0 rfl ?_
          refine j_i2l B dX2_workOutWith_86 ?_
          refine j_aload_n B dX2_workOutWith_87 rfl 1 rfl ?_
          refine j_iload_n B dX2_workOutWith_88 rfl 3 rfl ?_
          refine j_iload B dX2_workOutWith_89 6 rfl ?_
          refine j_iadd B dX2_workOutWith_91 ?_
          refine j_iload_n B dX2_workOutWith_92 rfl 2 rfl ?_
          refine j_iconst B dX2_workOutWith_93 (v := 1) (by decide) ?_
          refine j_isub B dX2_workOutWith_94 ?_
          obtain ⟨r6, hr6, h⟩ := h_bind h
          refine j_cVJ (rest := [.long r5.toInt64, .long x4]) B (tX2_waysFrom hW hr6) cls2 (wf_18 hW) jt_RX2_68 wi_X2_waysFrom ws_X2_waysFrom rfl (by decide) (Nat.le_refl _) (Nat.le_refl _) rfl (Nat.le_of_ble_eq_true rfl) dX2_workOutWith_95 ?_
          refine j_lmul B dX2_workOutWith_98 ?_
          refine j_ladd B dX2_workOutWith_99 ?_
          refine j_lstore (L' := [(4, .long (x4 + (r5.toInt64 * r6))), (7, .int r5), (0, .ref (G.1 + 16)), (1, .int x1), (2, .int x2), (3, .int x3), (6, .int x6)]) B dX2_workOutWith_100 (by decide) rfl ?_
          refine j_locals [2, 3, 4, 5, 0, 6] rfl ?_
          exact tX2_workOutWith_102 B E hW hk14 ih (x1) (x2) (x3) ((x4 + (r5.toInt64 * r6))) (x6) (vl)  h
def fX2_workOutWith_14 (vi0 : VI) : Nat → Int32 → Int32 → VL → Option (VL)
  | 0, _, _, _ => none
  | F + 1, x1, x2, vl => if (vi0 16 6) < x2 then some (vl) else (fX2_layersAt x2 vi0).bind fun r1 => if inb r1 13 = true then (fX2_waysFrom x2 (x1 - 1) vl).bind fun r3 => fX2_workOutWith_49 vi0 (fX2_workOutWith_14 vi0 F) FU x1 x2 r1 ((vi0 19 r1.toNatClampNeg).toInt64 * r3) 1 vl else none
theorem tX2_workOutWith_14 {G : GT} {sv : SV} {vi0 : VI} {ns : Nat} {Γ : CT} {vl' : VL} (B : Base G Γ mX2_workOutWith 2 0 0) (E : Ends G Γ 0 0 (QV sv vi0 vl')) (hW : WF sv ns) : ∀ (F : Nat) (x1 : Int32) (x2 : Int32) (vl : VL), fX2_workOutWith_14 vi0 F x1 x2 vl = some (vl') → J G Γ 0 0 14 [(0, .ref (G.1 + 16)), (1, .int x1), (2, .int x2)] [] sv vi0 vl := by
  intro F
  induction F with
  | zero =>
    intro x1 x2 vl  h
    cases (show (none : Option (VL)) = some (vl') from h)
  | succ F ih =>
    intro x1 x2 vl  h
    rw [fX2_workOutWith_14] at h
    refine j_iload_n B dX2_workOutWith_14 rfl 2 rfl ?_
    refine j_aload_n B dX2_workOutWith_15 rfl 0 rfl ?_
    refine gf_RX2_45 B rfl (wf_18 hW) dX2_workOutWith_16 ?_
    refine j_icmp_gt (tgt := 127) B dX2_workOutWith_19 (by decide) (fun c => ?_) (fun c => ?_)
    · replace h := h_pos c h
      have e1 := Option.some.inj h
      subst e1
      exact j_vret B E rfl dX2_workOutWith_127 (Nat.le_refl _) (Nat.le_refl _) ⟨rfl, rfl, rfl, rfl⟩
    · replace h := h_neg c h
      refine j_aload_n B dX2_workOutWith_22 rfl 0 rfl ?_
      refine j_iload_n B dX2_workOutWith_23 rfl 2 rfl ?_
      obtain ⟨r1, hr1, h⟩ := h_bind h
      refine j_cVI (rest := []) B (tX2_layersAt hW hr1) cls2 (wf_18 hW) jt_RX2_76 wi_X2_layersAt ws_X2_layersAt rfl (by decide) (Nat.le_refl _) (Nat.le_refl _) rfl (Nat.le_of_ble_eq_true rfl) dX2_workOutWith_24 ?_
      refine j_istore_n (L' := [(3, .int r1), (0, .ref (G.1 + 16)), (1, .int x1), (2, .int x2)]) B dX2_workOutWith_27 rfl (by decide) rfl ?_
      refine j_aload_n B dX2_workOutWith_28 rfl 1 rfl ?_
      refine gf_RX2_19 B rfl (wf_18 hW) (wf_116 hW) dX2_workOutWith_29 ?_
      refine j_iload_n B dX2_workOutWith_32 rfl 0 rfl ?_
      obtain ⟨b2, h⟩ := h_inb h
      refine j_iald B ((wf_21 hW)) b2 dX2_workOutWith_33 ?_
      refine j_i2l B dX2_workOutWith_34 ?_
      refine j_aload_n B dX2_workOutWith_35 rfl 1 rfl ?_
      refine j_iload_n B dX2_workOutWith_36 rfl 3 rfl ?_
      refine j_iload_n B dX2_workOutWith_37 rfl 2 rfl ?_
      refine j_iconst B dX2_workOutWith_38 (v := 1) (by decide) ?_
      refine j_isub B dX2_workOutWith_39 ?_
      obtain ⟨r3, hr3, h⟩ := h_bind h
      refine j_cVJ (rest := [.long (vi0 19 r1.toNatClampNeg).toInt64]) B (tX2_waysFrom hW hr3) cls2 (wf_18 hW) jt_RX2_68 wi_X2_waysFrom ws_X2_waysFrom rfl (by decide) (Nat.le_refl _) (Nat.le_refl _) rfl (Nat.le_of_ble_eq_true rfl) dX2_workOutWith_40 ?_
      refine j_lmul B dX2_workOutWith_43 ?_
      refine j_lstore (L' := [(4, .long ((vi0 19 r1.toNatClampNeg).toInt64 * r3)), (3, .int r1), (0, .ref (G.1 + 16)), (1, .int x1), (2, .int x2)]) B dX2_workOutWith_44 (by decide) rfl ?_
      refine j_iconst B dX2_workOutWith_46 (v := 1) (by decide) ?_
      refine j_istore (L' := [(6, .int 1), (4, .long ((vi0 19 r1.toNatClampNeg).toInt64 * r3)), (3, .int r1), (0, .ref (G.1 + 16)), (1, .int x1), (2, .int x2)]) B dX2_workOutWith_47 (by decide) rfl ?_
      refine j_locals [3, 4, 5, 2, 1, 0] rfl ?_
      exact tX2_workOutWith_49 B E hW ih FU (x1) (x2) (r1) (((vi0 19 r1.toNatClampNeg).toInt64 * r3)) (1) (vl)  h
def fX2_workOutWith (x1 : Int32) (vi0 : VI) (vl0 : VL) : Option (VL) := fX2_workOutWith_14 vi0 FU x1 ((if 0 < ((vi0 16 6) - (x1 * 9)) then ((vi0 16 6) - (x1 * 9)) else 0) : Int32) vl0
theorem tX2_workOutWith {G : GT} {sv : SV} {vi0 : VI} {vl0 : VL} {ns : Nat} {x1 : Int32} {vl' : VL} (hW : WF sv ns) (h : fX2_workOutWith x1 vi0 vl0 = some (vl')) : Call G mX2_workOutWith 2 0 0 [.ref (G.1 + 16), .int x1] sv vi0 vl0 (QV sv vi0 vl') := by
  refine j_mk (by decide +kernel) (Nat.le_of_ble_eq_true rfl) (fun Γ B E => ?_)
  show J G Γ 0 0 0 [(0, .ref (G.1 + 16)), (1, .int x1)] [] sv vi0 vl0
  unfold fX2_workOutWith at h
  refine j_iconst B dX2_workOutWith_0 (v := 0) (by decide) ?_
  refine j_aload_n B dX2_workOutWith_1 rfl 0 rfl ?_
  refine gf_RX2_45 B rfl (wf_18 hW) dX2_workOutWith_2 ?_
  refine j_iload_n B dX2_workOutWith_5 rfl 1 rfl ?_
  refine j_bipush B dX2_workOutWith_6 (v := 9) (by decide) ?_
  refine j_imul B dX2_workOutWith_8 ?_
  refine j_isub B dX2_workOutWith_9 ?_
  refine j_mmax B (jt_RX2_92).2.2.1 wst_J9_max_7cf53 wini_RJ9 wcm_max (by decide) (Nat.le_refl _) (Nat.le_refl _) (Nat.le_of_ble_eq_true rfl) dX2_workOutWith_10 ?_
  refine j_istore_n (L' := [(2, .int ((if 0 < ((vi0 16 6) - (x1 * 9)) then ((vi0 16 6) - (x1 * 9)) else 0) : Int32)), (0, .ref (G.1 + 16)), (1, .int x1)]) B dX2_workOutWith_13 rfl (by decide) rfl ?_
  refine j_locals [1, 2, 0] rfl ?_
  exact tX2_workOutWith_14 B E hW FU (x1) (((if 0 < ((vi0 16 6) - (x1 * 9)) then ((vi0 16 6) - (x1 * 9)) else 0) : Int32)) (vl0)  h
def fX2_workOut_141 (x1 : Nat) : Nat → Int32 → Int32 → VI → VL → Option (VI × VL)
  | 0, _, _, _, _ => none
  | F + 1, x2, x4, vi, vl => if x2 < x4 then some (vi, vl) else if 9 < x4 then some (vi, vl) else (fX2_workOutWith x4 vi vl).bind fun r7 => fX2_workOut_141 x1 F x2 (x4 + 1) vi r7
theorem tX2_workOut_141 {G : GT} {sv : SV} {ns : Nat} {Γ : CT} {x1 : Nat} {vi' : VI} {vl' : VL} (B : Base G Γ mX2_workOut 5 0 0) (E : Ends G Γ 0 0 (QV sv vi' vl')) (hW : WF sv ns) (h1 : isSill sv x1) : ∀ (F : Nat) (x2 : Int32) (x4 : Int32) (vi : VI) (vl : VL), fX2_workOut_141 x1 F x2 x4 vi vl = some (vi', vl') → J G Γ 0 0 141 [(0, .ref (G.1 + 16)), (2, .int x2), (4, .int x4)] [] sv vi vl := by
  intro F
  induction F with
  | zero =>
    intro x2 x4 vi vl  h
    cases (show (none : Option (VI × VL)) = some (vi', vl') from h)
  | succ F ih =>
    intro x2 x4 vi vl  h
    rw [fX2_workOut_141] at h
    refine j_iload B dX2_workOut_141 2 rfl ?_
    refine j_iload_n B dX2_workOut_143 rfl 1 rfl ?_
    refine j_icmp_gt (tgt := 166) B dX2_workOut_144 (by decide) (fun c => ?_) (fun c => ?_)
    · replace h := h_pos c h
      obtain ⟨e1, e2⟩ := Prod.mk.inj (Option.some.inj h)
      subst e1
      subst e2
      exact j_vret B E rfl dX2_workOut_166 (Nat.le_refl _) (Nat.le_refl _) ⟨rfl, rfl, rfl, rfl⟩
    · replace h := h_neg c h
      refine j_iload B dX2_workOut_147 2 rfl ?_
      refine j_bipush B dX2_workOut_149 (v := 9) (by decide) ?_
      refine j_icmp_gt (tgt := 166) B dX2_workOut_151 (by decide) (fun c => ?_) (fun c => ?_)
      · replace h := h_pos c h
        obtain ⟨e1, e2⟩ := Prod.mk.inj (Option.some.inj h)
        subst e1
        subst e2
        exact j_vret B E rfl dX2_workOut_166 (Nat.le_refl _) (Nat.le_refl _) ⟨rfl, rfl, rfl, rfl⟩
      · replace h := h_neg c h
        refine j_aload_n B dX2_workOut_154 rfl 0 rfl ?_
        refine j_iload B dX2_workOut_155 2 rfl ?_
        obtain ⟨r7, hr7, h⟩ := h_bind h
        refine j_cVV (rest := []) B (tX2_workOutWith hW hr7) cls2 (wf_18 hW) jt_RX2_64 wi_X2_workOutWith ws_X2_workOutWith rfl (by decide) (Nat.le_refl _) (Nat.le_refl _) rfl (Nat.le_of_ble_eq_true rfl) dX2_workOut_157 ?_
        refine j_iinc (v := (x4 + 1)) (L' := [(4, .int (x4 + 1)), (0, .ref (G.1 + 16)), (2, .int x2)]) B dX2_workOut_160 2 rfl rfl (by decide) rfl ?_
        refine j_goto (tgt := 141) B dX2_workOut_163 (by decide) ?_
        refine j_locals [1, 2, 0] rfl ?_
        exact ih (x2) ((x4 + 1)) (vi) (r7)  h
def fX2_workOut_113 (x1 : Nat) (k67 : Int32 → Int32 → Int32 → VI → VL → Option (VI × VL)) (x2 : Int32) (x3 : Int32) (x4 : Int32) (s1 : Int32) (s2 : Int32) (vi : VI) (vl : VL) : Option (VI × VL) := if inb s1 13 = true then (fX2_sortLookings x1 x4 x3 (j_up vi 18 s1.toNatClampNeg s2)).bind fun r11 => k67 x2 x3 (x4 + 1) r11 vl else none
theorem tX2_workOut_113 {G : GT} {sv : SV} {ns : Nat} {Γ : CT} {x1 : Nat} {vi' : VI} {vl' : VL} {k67 : Int32 → Int32 → Int32 → VI → VL → Option (VI × VL)} (B : Base G Γ mX2_workOut 5 0 0) (E : Ends G Γ 0 0 (QV sv vi' vl')) (hW : WF sv ns) (h1 : isSill sv x1) (hk67 : ∀ (x2 : Int32) (x3 : Int32) (x4 : Int32) (vi : VI) (vl : VL), k67 x2 x3 x4 vi vl = some (vi', vl') → J G Γ 0 0 67 [(0, .ref (G.1 + 16)), (1, .ref (G.1 + x1)), (2, .int x2), (3, .int x3), (4, .int x4)] [] sv vi vl) : ∀ (x2 : Int32) (x3 : Int32) (x4 : Int32) (s1 : Int32) (s2 : Int32) (vi : VI) (vl : VL), fX2_workOut_113 x1 k67 x2 x3 x4 s1 s2 vi vl = some (vi', vl') → J G Γ 0 0 113 [(0, .ref (G.1 + 16)), (1, .ref (G.1 + x1)), (2, .int x2), (3, .int x3), (4, .int x4)] [.int s2, .int s1, .ref (G.1 + 18)] sv vi vl := by
  intro x2 x3 x4 s1 s2 vi vl  h
  unfold fX2_workOut_113 at h
  obtain ⟨b10, h⟩ := h_inb h
  refine j_iast B ((wf_20 hW)) b10 dX2_workOut_113 ?_
  refine j_aload_n B dX2_workOut_114 rfl 0 rfl ?_
  refine j_aload_n B dX2_workOut_115 rfl 1 rfl ?_
  refine j_iload B dX2_workOut_116 4 rfl ?_
  refine j_iload_n B dX2_workOut_118 rfl 3 rfl ?_
  obtain ⟨r11, hr11, h⟩ := h_bind h
  refine j_cVV (rest := []) B (tX2_sortLookings hW (h1) hr11) cls2 (wf_18 hW) jt_RX2_60 wi_X2_sortLookings ws_X2_sortLookings rfl (by decide) (Nat.le_refl _) (Nat.le_refl _) rfl (Nat.le_of_ble_eq_true rfl) dX2_workOut_119 ?_
  refine j_iinc (v := (x4 + 1)) (L' := [(4, .int (x4 + 1)), (0, .ref (G.1 + 16)), (1, .ref (G.1 + x1)), (2, .int x2), (3, .int x3)]) B dX2_workOut_122 4 rfl rfl (by decide) rfl ?_
  refine j_goto (tgt := 67) B dX2_workOut_125 (by decide) ?_
  refine j_locals [1, 2, 3, 4, 0] rfl ?_
  exact hk67 (x2) (x3) ((x4 + 1)) (r11) (vl)  h
def fX2_workOut_67 (x1 : Nat) : Nat → Int32 → Int32 → Int32 → VI → VL → Option (VI × VL)
  | 0, _, _, _, _, _ => none
  | F + 1, x2, x3, x4, vi, vl => if (vi 16 5) < x4 then if inb (vi 16 6) 820 = true then fX2_workOut_141 x1 FU x2 1 vi (j_up vl 17 (vi 16 6).toNatClampNeg 1) else none else if x4 = 0 then fX2_workOut_113 x1 (fX2_workOut_67 x1 F) x2 x3 x4 x4 0 vi vl else if inb (x4 - 1) 13 = true then if inb (x4 - 1) 12 = true then fX2_workOut_113 x1 (fX2_workOut_67 x1 F) x2 x3 x4 x4 ((vi 18 (x4 - 1).toNatClampNeg) + (vi ((x1 + 1) + 2) (x4 - 1).toNatClampNeg)) vi vl else none else none
theorem tX2_workOut_67 {G : GT} {sv : SV} {ns : Nat} {Γ : CT} {x1 : Nat} {vi' : VI} {vl' : VL} (B : Base G Γ mX2_workOut 5 0 0) (E : Ends G Γ 0 0 (QV sv vi' vl')) (hW : WF sv ns) (h1 : isSill sv x1) : ∀ (F : Nat) (x2 : Int32) (x3 : Int32) (x4 : Int32) (vi : VI) (vl : VL), fX2_workOut_67 x1 F x2 x3 x4 vi vl = some (vi', vl') → J G Γ 0 0 67 [(0, .ref (G.1 + 16)), (1, .ref (G.1 + x1)), (2, .int x2), (3, .int x3), (4, .int x4)] [] sv vi vl := by
  intro F
  induction F with
  | zero =>
    intro x2 x3 x4 vi vl  h
    cases (show (none : Option (VI × VL)) = some (vi', vl') from h)
  | succ F ih =>
    intro x2 x3 x4 vi vl  h
    rw [fX2_workOut_67] at h
    refine j_iload B dX2_workOut_67 4 rfl ?_
    refine j_aload_n B dX2_workOut_69 rfl 0 rfl ?_
    refine gf_RX2_40 B rfl (wf_18 hW) dX2_workOut_70 ?_
    refine j_icmp_gt (tgt := 128) B dX2_workOut_73 (by decide) (fun c => ?_) (fun c => ?_)
    · replace h := h_pos c h
      refine j_aload_n B dX2_workOut_128 rfl 0 rfl ?_
      refine gf_RX2_11 B rfl (wf_18 hW) (wf_114 hW) dX2_workOut_129 ?_
      refine j_aload_n B dX2_workOut_132 rfl 0 rfl ?_
      refine gf_RX2_45 B rfl (wf_18 hW) dX2_workOut_133 ?_
      refine j_lconst B dX2_workOut_136 (v := 1) rfl ?_
      obtain ⟨b6, h⟩ := h_inb h
      refine j_last B ((wf_19 hW)) b6 dX2_workOut_137 ?_
      refine j_iconst B dX2_workOut_138 (v := 1) (by decide) ?_
      refine j_istore (L' := [(4, .int 1), (0, .ref (G.1 + 16)), (1, .ref (G.1 + x1)), (2, .int x2), (3, .int x3)]) B dX2_workOut_139 (by decide) rfl ?_
      refine j_locals [1, 3, 0] rfl ?_
      exact tX2_workOut_141 B E hW h1 FU (x2) (1) (vi) ((j_up vl 17 (vi 16 6).toNatClampNeg 1))  h
    · replace h := h_neg c h
      refine j_aload_n B dX2_workOut_76 rfl 0 rfl ?_
      refine gf_RX2_15 B rfl (wf_18 hW) (wf_115 hW) dX2_workOut_77 ?_
      refine j_iload B dX2_workOut_80 4 rfl ?_
      refine j_iload B dX2_workOut_82 4 rfl ?_
      refine j_if_ne (tgt := 91) B dX2_workOut_84 (by decide) (fun c => ?_) (fun c => ?_)
      · replace h := h_neg c h
        refine j_aload_n B dX2_workOut_91 rfl 0 rfl ?_
        refine gf_RX2_15 B rfl (wf_18 hW) (wf_115 hW) dX2_workOut_92 ?_
        refine j_iload B dX2_workOut_95 4 rfl ?_
        refine j_iconst B dX2_workOut_97 (v := 1) (by decide) ?_
        refine j_isub B dX2_workOut_98 ?_
        obtain ⟨b8, h⟩ := h_inb h
        refine j_iald B ((wf_20 hW)) b8 dX2_workOut_99 ?_
        refine j_aload_n B dX2_workOut_100 rfl 1 rfl ?_
        refine gf_RX2_28 B rfl ((h1).1) (h1).2.2.1 dX2_workOut_101 ?_
        refine gf_RX2_57 B rfl (((h1).2.2.2.2.2).1) ((h1).2.2.2.2.2).2.2.1 dX2_workOut_104 ?_
        refine j_iload B dX2_workOut_107 4 rfl ?_
        refine j_iconst B dX2_workOut_109 (v := 1) (by decide) ?_
        refine j_isub B dX2_workOut_110 ?_
        obtain ⟨b9, h⟩ := h_inb h
        refine j_iald B (((h1).2.2.2.2.2).2.2.2.2) b9 dX2_workOut_111 ?_
        refine j_iadd B dX2_workOut_112 ?_
        refine j_locals [0, 1, 2, 3, 4] rfl ?_
        exact tX2_workOut_113 B E hW h1 ih (x2) (x3) (x4) (x4) (((vi 18 (x4 - 1).toNatClampNeg) + (vi ((x1 + 1) + 2) (x4 - 1).toNatClampNeg))) (vi) (vl)  h
      · replace h := h_pos c h
        refine j_iconst B dX2_workOut_87 (v := 0) (by decide) ?_
        refine j_goto (tgt := 113) B dX2_workOut_88 (by decide) ?_
        refine j_locals [0, 1, 2, 3, 4] rfl ?_
        exact tX2_workOut_113 B E hW h1 ih (x2) (x3) (x4) (x4) (0) (vi) (vl)  h
def fX2_workOut (x1 : Nat) (x2 : Int32) (x3 : Int32) (vi0 : VI) (vl0 : VL) : Option (VI × VL) := (fX3_allThick (x1 + 1) (j_up vi0 16 5 (vi0 (x1 + 1) 2))).bind fun r1 => (fJ7_fill_d0a16 17 820 0 vl0).bind fun r2 => if ((j_up (j_up vi0 16 5 (vi0 (x1 + 1) 2)) 16 6 r1) 16 6) ≤ 81 then (fJ7_fill_53178 19 13 0 (j_up (j_up vi0 16 5 (vi0 (x1 + 1) 2)) 16 6 r1)).bind fun r3 => (fJ7_fill_53178 20 130 0 r3).bind fun r4 => (fJ7_fill_53178 21 130 0 r4).bind fun r5 => fX2_workOut_67 x1 FU x2 x3 0 r5 r2 else some ((j_up (j_up vi0 16 5 (vi0 (x1 + 1) 2)) 16 6 r1), r2)
theorem tX2_workOut {G : GT} {sv : SV} {vi0 : VI} {vl0 : VL} {ns : Nat} {x1 : Nat} {x2 : Int32} {x3 : Int32} {vi' : VI} {vl' : VL} (hW : WF sv ns) (h1 : isSill sv x1) (h : fX2_workOut x1 x2 x3 vi0 vl0 = some (vi', vl')) : Call G mX2_workOut 5 0 0 [.ref (G.1 + 16), .ref (G.1 + x1), .int x2, .int x3] sv vi0 vl0 (QV sv vi' vl') := by
  refine j_mk (by decide +kernel) (Nat.le_of_ble_eq_true rfl) (fun Γ B E => ?_)
  show J G Γ 0 0 0 [(0, .ref (G.1 + 16)), (1, .ref (G.1 + x1)), (2, .int x2), (3, .int x3)] [] sv vi0 vl0
  unfold fX2_workOut at h
  refine j_aload_n B dX2_workOut_0 rfl 0 rfl ?_
  refine j_aload_n B dX2_workOut_1 rfl 1 rfl ?_
  refine gf_RX2_28 B rfl ((h1).1) (h1).2.2.1 dX2_workOut_2 ?_
  refine gf_RX2_34 B rfl (((h1).2.2.2.2.2).1) dX2_workOut_5 ?_
  refine pf_RX2_40 B rfl (wf_18 hW) dX2_workOut_8 ?_
  refine j_aload_n B dX2_workOut_11 rfl 0 rfl ?_
  refine j_aload_n B dX2_workOut_12 rfl 1 rfl ?_
  refine gf_RX2_28 B rfl ((h1).1) (h1).2.2.1 dX2_workOut_13 ?_
  obtain ⟨r1, hr1, h⟩ := h_bind h
  refine j_cVI (rest := [.ref (G.1 + 16)]) B (tX3_allThick ((h1).2.2.2.2.2) hr1) cls3 (((h1).2.2.2.2.2).1) jt_RX2_41 wi_X3_allThick ws_X3_allThick rfl (by decide) (Nat.le_refl _) (Nat.le_refl _) rfl (Nat.le_of_ble_eq_true rfl) dX2_workOut_16 ?_
  refine pf_RX2_45 B rfl (wf_18 hW) dX2_workOut_19 ?_
  refine j_aload_n B dX2_workOut_22 rfl 0 rfl ?_
  refine gf_RX2_11 B rfl (wf_18 hW) (wf_114 hW) dX2_workOut_23 ?_
  refine j_lconst B dX2_workOut_26 (v := 0) rfl ?_
  obtain ⟨r2, hr2, h⟩ := h_bind h
  refine j_cSV (rest := []) B (tJ7_fill_d0a16 ((wf_19 hW)) hr2) jt_RX2_48 wst_J7_fill_d0a16 rfl (by decide) (Nat.le_refl _) (Nat.le_refl _) rfl (Nat.le_of_ble_eq_true rfl) dX2_workOut_27 ?_
  refine j_aload_n B dX2_workOut_30 rfl 0 rfl ?_
  refine gf_RX2_45 B rfl (wf_18 hW) dX2_workOut_31 ?_
  refine j_bipush B dX2_workOut_34 (v := 81) (by decide) ?_
  refine j_icmp_le (tgt := 40) B dX2_workOut_36 (by decide) (fun c => ?_) (fun c => ?_)
  · replace h := h_pos c h
    refine j_aload_n B dX2_workOut_40 rfl 0 rfl ?_
    refine gf_RX2_19 B rfl (wf_18 hW) (wf_116 hW) dX2_workOut_41 ?_
    refine j_iconst B dX2_workOut_44 (v := 0) (by decide) ?_
    obtain ⟨r3, hr3, h⟩ := h_bind h
    refine j_cSV (rest := []) B (tJ7_fill_53178 ((wf_21 hW)) hr3) jt_RX2_54 wst_J7_fill_53178 rfl (by decide) (Nat.le_refl _) (Nat.le_refl _) rfl (Nat.le_of_ble_eq_true rfl) dX2_workOut_45 ?_
    refine j_aload_n B dX2_workOut_48 rfl 0 rfl ?_
    refine gf_RX2_22 B rfl (wf_18 hW) (wf_117 hW) dX2_workOut_49 ?_
    refine j_iconst B dX2_workOut_52 (v := 0) (by decide) ?_
    obtain ⟨r4, hr4, h⟩ := h_bind h
    refine j_cSV (rest := []) B (tJ7_fill_53178 ((wf_22 hW)) hr4) jt_RX2_54 wst_J7_fill_53178 rfl (by decide) (Nat.le_refl _) (Nat.le_refl _) rfl (Nat.le_of_ble_eq_true rfl) dX2_workOut_53 ?_
    refine j_aload_n B dX2_workOut_56 rfl 0 rfl ?_
    refine gf_RX2_25 B rfl (wf_18 hW) (wf_118 hW) dX2_workOut_57 ?_
    refine j_iconst B dX2_workOut_60 (v := 0) (by decide) ?_
    obtain ⟨r5, hr5, h⟩ := h_bind h
    refine j_cSV (rest := []) B (tJ7_fill_53178 ((wf_23 hW)) hr5) jt_RX2_54 wst_J7_fill_53178 rfl (by decide) (Nat.le_refl _) (Nat.le_refl _) rfl (Nat.le_of_ble_eq_true rfl) dX2_workOut_61 ?_
    refine j_iconst B dX2_workOut_64 (v := 0) (by decide) ?_
    refine j_istore (L' := [(4, .int 0), (0, .ref (G.1 + 16)), (1, .ref (G.1 + x1)), (2, .int x2), (3, .int x3)]) B dX2_workOut_65 (by decide) rfl ?_
    refine j_locals [1, 2, 3, 4, 0] rfl ?_
    exact tX2_workOut_67 B E hW h1 FU (x2) (x3) (0) (r5) (r2)  h
  · replace h := h_neg c h
    obtain ⟨e1, e2⟩ := Prod.mk.inj (Option.some.inj h)
    subst e1
    subst e2
    exact j_vret B E rfl dX2_workOut_39 (Nat.le_refl _) (Nat.le_refl _) ⟨rfl, rfl, rfl, rfl⟩
def fX2_fromBare (x1 : Int32) (vl0 : VL) : Option (Int64) := (fX2_waysFrom 0 x1 vl0).bind fun r1 => some (r1)
theorem tX2_fromBare {G : GT} {sv : SV} {vi0 : VI} {vl0 : VL} {ns : Nat} {x1 : Int32} {r : Int64} (hW : WF sv ns) (h : fX2_fromBare x1 vl0 = some (r)) : Call G mX2_fromBare 1 0 0 [.ref (G.1 + 16), .int x1] sv vi0 vl0 (QJ r sv vi0 vl0) := by
  refine j_mk (by decide +kernel) (Nat.le_of_ble_eq_true rfl) (fun Γ B E => ?_)
  show J G Γ 0 0 0 [(0, .ref (G.1 + 16)), (1, .int x1)] [] sv vi0 vl0
  unfold fX2_fromBare at h
  refine j_aload_n B dX2_fromBare_0 rfl 0 rfl ?_
  refine j_iconst B dX2_fromBare_1 (v := 0) (by decide) ?_
  refine j_iload_n B dX2_fromBare_2 rfl 1 rfl ?_
  obtain ⟨r1, hr1, h⟩ := h_bind h
  refine j_cVJ (rest := []) B (tX2_waysFrom hW hr1) cls2 (wf_18 hW) jt_RX2_68 wi_X2_waysFrom ws_X2_waysFrom rfl (by decide) (Nat.le_refl _) (Nat.le_refl _) rfl (Nat.le_of_ble_eq_true rfl) dX2_fromBare_3 ?_
  have e1 := Option.some.inj h
  subst e1
  exact j_lret B E rfl dX2_fromBare_6 (Nat.le_refl _) (Nat.le_refl _) ⟨rfl, rfl, rfl, rfl⟩
def fX2_placeBehind (x1 : Nat) (x2 : Int32) (x3 : Int32) (vi0 : VI) : Option (Int32 × VI) := (fX2_layersAt x2 vi0).bind fun r1 => (fX7_gives x1 r1 (x3 / 10) (x3 - x3 / 10 * 10) vi0).bind fun r2 => if r2.1 = 0 then some (x2, r2.2) else (fX3_tells (x1 + 1) (r1 - 1) 0 r2.2).bind fun r3 => if r3 = (x3 / 10) then if inb r1 13 = true then if (r2.2 18 r1.toNatClampNeg) < (x2 + r2.1) then some ((-2), r2.2) else some ((x2 + r2.1), r2.2) else none else (fX3_tells (x1 + 1) r1 0 r2.2).bind fun r4 => if r4 = (x3 / 10) then (fX2_mayBegin r1 x2 r2.1 r2.2).bind fun r5 => if r5 = true then some ((x2 + r2.1), r2.2) else some ((-2), r2.2) else some ((-2), r2.2)
theorem tX2_placeBehind {G : GT} {sv : SV} {vi0 : VI} {vl0 : VL} {ns : Nat} {x1 : Nat} {x2 : Int32} {x3 : Int32} {r : Int32} {vi' : VI} (hW : WF sv ns) (h1 : isSill sv x1) (h : fX2_placeBehind x1 x2 x3 vi0 = some (r, vi')) : Call G mX2_placeBehind 4 0 0 [.ref (G.1 + 16), .ref (G.1 + x1), .int x2, .int x3] sv vi0 vl0 (QI r sv vi' vl0) := by
  refine j_mk (by decide +kernel) (Nat.le_of_ble_eq_true rfl) (fun Γ B E => ?_)
  show J G Γ 0 0 0 [(0, .ref (G.1 + 16)), (1, .ref (G.1 + x1)), (2, .int x2), (3, .int x3)] [] sv vi0 vl0
  unfold fX2_placeBehind at h
  refine j_aload_n B dX2_placeBehind_0 rfl 0 rfl ?_
  refine j_iload_n B dX2_placeBehind_1 rfl 2 rfl ?_
  obtain ⟨r1, hr1, h⟩ := h_bind h
  refine j_cVI (rest := []) B (tX2_layersAt hW hr1) cls2 (wf_18 hW) jt_RX2_76 wi_X2_layersAt ws_X2_layersAt rfl (by decide) (Nat.le_refl _) (Nat.le_refl _) rfl (Nat.le_of_ble_eq_true rfl) dX2_placeBehind_2 ?_
  refine j_istore (L' := [(4, .int r1), (0, .ref (G.1 + 16)), (1, .ref (G.1 + x1)), (2, .int x2), (3, .int x3)]) B dX2_placeBehind_5 (by decide) rfl ?_
  refine j_iload_n B dX2_placeBehind_7 rfl 4 rfl ?_
  refine j_bipush B dX2_placeBehind_8 (v := 10) (by decide) ?_
  refine j_idiv B dX2_placeBehind_10 (by decide) ?_
  refine j_istore (L' := [(5, .int (x3 / 10)), (4, .int r1), (0, .ref (G.1 + 16)), (1, .ref (G.1 + x1)), (2, .int x2), (3, .int x3)]) B dX2_placeBehind_11 (by decide) rfl ?_
  refine j_aload_n B dX2_placeBehind_13 rfl 3 rfl ?_
  refine j_iload B dX2_placeBehind_14 1 rfl ?_
  refine j_iload B dX2_placeBehind_16 0 rfl ?_
  refine j_iload_n B dX2_placeBehind_18 rfl 5 rfl ?_
  refine j_bipush B dX2_placeBehind_19 (v := 10) (by decide) ?_
  refine j_irem B dX2_placeBehind_21 (by decide) ?_
  obtain ⟨r2, hr2, h⟩ := h_bind h
  refine j_cVI (rest := []) B (tX7_gives hW (h1) hr2) cls7 ((h1).1) jt_RX2_80 wi_X7_gives ws_X7_gives rfl (by decide) (Nat.le_refl _) (Nat.le_refl _) rfl (Nat.le_of_ble_eq_true rfl) dX2_placeBehind_22 ?_
  refine j_istore (L' := [(6, .int r2.1), (5, .int (x3 / 10)), (4, .int r1), (0, .ref (G.1 + 16)), (1, .ref (G.1 + x1)), (2, .int x2), (3, .int x3)]) B dX2_placeBehind_25 (by decide) rfl ?_
  refine j_iload B dX2_placeBehind_27 0 rfl ?_
  refine j_if_ne (tgt := 34) B dX2_placeBehind_29 (by decide) (fun c => ?_) (fun c => ?_)
  · replace h := h_neg c h
    refine j_aload_n B dX2_placeBehind_34 rfl 4 rfl ?_
    refine gf_RX2_28 B rfl ((h1).1) (h1).2.2.1 dX2_placeBehind_35 ?_
    refine j_iload B dX2_placeBehind_38 2 rfl ?_
    refine j_iconst B dX2_placeBehind_40 (v := 1) (by decide) ?_
    refine j_isub B dX2_placeBehind_41 ?_
    refine j_iconst B dX2_placeBehind_42 (v := 0) (by decide) ?_
    obtain ⟨r3, hr3, h⟩ := h_bind h
    refine j_cVI (rest := []) B (tX3_tells ((h1).2.2.2.2.2) hr3) cls3 (((h1).2.2.2.2.2).1) jt_RX2_84 wi_X3_tells ws_X3_tells rfl (by decide) (Nat.le_refl _) (Nat.le_refl _) rfl (Nat.le_of_ble_eq_true rfl) dX2_placeBehind_43 ?_
    refine j_iload B dX2_placeBehind_46 1 rfl ?_
    refine j_icmp_ne (tgt := 75) B dX2_placeBehind_48 (by decide) (fun c => ?_) (fun c => ?_)
    · replace h := h_neg c h
      refine j_aload_n B dX2_placeBehind_75 rfl 4 rfl ?_
      refine gf_RX2_28 B rfl ((h1).1) (h1).2.2.1 dX2_placeBehind_76 ?_
      refine j_iload B dX2_placeBehind_79 2 rfl ?_
      refine j_iconst B dX2_placeBehind_81 (v := 0) (by decide) ?_
      obtain ⟨r4, hr4, h⟩ := h_bind h
      refine j_cVI (rest := []) B (tX3_tells ((h1).2.2.2.2.2) hr4) cls3 (((h1).2.2.2.2.2).1) jt_RX2_84 wi_X3_tells ws_X3_tells rfl (by decide) (Nat.le_refl _) (Nat.le_refl _) rfl (Nat.le_of_ble_eq_true rfl) dX2_placeBehind_82 ?_
      refine j_iload B dX2_placeBehind_85 1 rfl ?_
      refine j_icmp_ne (tgt := 109) B dX2_placeBehind_87 (by decide) (fun c => ?_) (fun c => ?_)
      · replace h := h_neg c h
        refine j_bipush B dX2_placeBehind_109 (v := (-2)) (by decide) ?_
        obtain ⟨e1, e2⟩ := Prod.mk.inj (Option.some.inj h)
        subst e1
        subst e2
        exact j_iret B E rfl dX2_placeBehind_111 (Nat.le_refl _) (Nat.le_refl _) ⟨rfl, rfl, rfl, rfl⟩
      · replace h := h_pos c h
        refine j_aload_n B dX2_placeBehind_90 rfl 3 rfl ?_
        refine j_iload B dX2_placeBehind_91 2 rfl ?_
        refine j_iload_n B dX2_placeBehind_93 rfl 5 rfl ?_
        refine j_iload B dX2_placeBehind_94 0 rfl ?_
        obtain ⟨r5, hr5, h⟩ := h_bind h
        refine j_cVI (rest := []) B (tX2_mayBegin hW hr5) cls2 (wf_18 hW) jt_RX2_88 wi_X2_mayBegin ws_X2_mayBegin rfl (by decide) (Nat.le_refl _) (Nat.le_refl _) rfl (Nat.le_of_ble_eq_true rfl) dX2_placeBehind_96 ?_
        refine j_if_eq (tgt := 109) B dX2_placeBehind_99 (by decide) (fun c => ?_) (fun c => ?_)
        · replace h := h_neg (b2i_0 c) h
          refine j_bipush B dX2_placeBehind_109 (v := (-2)) (by decide) ?_
          obtain ⟨e1, e2⟩ := Prod.mk.inj (Option.some.inj h)
          subst e1
          subst e2
          exact j_iret B E rfl dX2_placeBehind_111 (Nat.le_refl _) (Nat.le_refl _) ⟨rfl, rfl, rfl, rfl⟩
        · replace h := h_pos (b2i_1 c) h
          refine j_iload_n B dX2_placeBehind_102 rfl 5 rfl ?_
          refine j_iload B dX2_placeBehind_103 0 rfl ?_
          refine j_iadd B dX2_placeBehind_105 ?_
          refine j_goto (tgt := 111) B dX2_placeBehind_106 (by decide) ?_
          obtain ⟨e1, e2⟩ := Prod.mk.inj (Option.some.inj h)
          subst e1
          subst e2
          exact j_iret B E rfl dX2_placeBehind_111 (Nat.le_refl _) (Nat.le_refl _) ⟨rfl, rfl, rfl, rfl⟩
    · replace h := h_pos c h
      refine j_iload_n B dX2_placeBehind_51 rfl 5 rfl ?_
      refine j_iload B dX2_placeBehind_52 0 rfl ?_
      refine j_iadd B dX2_placeBehind_54 ?_
      refine j_aload_n B dX2_placeBehind_55 rfl 3 rfl ?_
      refine gf_RX2_15 B rfl (wf_18 hW) (wf_115 hW) dX2_placeBehind_56 ?_
      refine j_iload B dX2_placeBehind_59 2 rfl ?_
      obtain ⟨b6, h⟩ := h_inb h
      refine j_iald B ((wf_20 hW)) b6 dX2_placeBehind_61 ?_
      refine j_icmp_gt (tgt := 72) B dX2_placeBehind_62 (by decide) (fun c => ?_) (fun c => ?_)
      · replace h := h_pos c h
        refine j_bipush B dX2_placeBehind_72 (v := (-2)) (by decide) ?_
        obtain ⟨e1, e2⟩ := Prod.mk.inj (Option.some.inj h)
        subst e1
        subst e2
        exact j_iret B E rfl dX2_placeBehind_74 (Nat.le_refl _) (Nat.le_refl _) ⟨rfl, rfl, rfl, rfl⟩
      · replace h := h_neg c h
        refine j_iload_n B dX2_placeBehind_65 rfl 5 rfl ?_
        refine j_iload B dX2_placeBehind_66 0 rfl ?_
        refine j_iadd B dX2_placeBehind_68 ?_
        refine j_goto (tgt := 74) B dX2_placeBehind_69 (by decide) ?_
        obtain ⟨e1, e2⟩ := Prod.mk.inj (Option.some.inj h)
        subst e1
        subst e2
        exact j_iret B E rfl dX2_placeBehind_74 (Nat.le_refl _) (Nat.le_refl _) ⟨rfl, rfl, rfl, rfl⟩
  · replace h := h_pos c h
    refine j_iload_n B dX2_placeBehind_32 rfl 5 rfl ?_
    obtain ⟨e1, e2⟩ := Prod.mk.inj (Option.some.inj h)
    subst e1
    subst e2
    exact j_iret B E rfl dX2_placeBehind_33 (Nat.le_refl _) (Nat.le_refl _) ⟨rfl, rfl, rfl, rfl⟩
def fX2_firstLooking_3 (x1 : Nat) (vl0 : VL) : Nat → Int32 → Int32 → Int32 → VI → Option (Int32 × VI)
  | 0, _, _, _, _ => none
  | F + 1, x2, x3, x4, vi => if 60 ≤ x4 then some ((-2), vi) else (fX2_placeBehind x1 x2 x4 vi).bind fun r1 => (fX2_waysFrom r1.1 x3 vl0).bind fun r2 => if (lg_cmp r2 0) ≤ 0 then fX2_firstLooking_3 x1 vl0 F x2 x3 (x4 + 1) r1.2 else some (x4, r1.2)
theorem tX2_firstLooking_3 {G : GT} {sv : SV} {vl0 : VL} {ns : Nat} {Γ : CT} {x1 : Nat} {r : Int32} {vi' : VI} (B : Base G Γ mX2_firstLooking 5 0 0) (E : Ends G Γ 0 0 (QI r sv vi' vl0)) (hW : WF sv ns) (h1 : isSill sv x1) : ∀ (F : Nat) (x2 : Int32) (x3 : Int32) (x4 : Int32) (vi : VI), fX2_firstLooking_3 x1 vl0 F x2 x3 x4 vi = some (r, vi') → J G Γ 0 0 3 [(0, .ref (G.1 + 16)), (1, .ref (G.1 + x1)), (2, .int x2), (3, .int x3), (4, .int x4)] [] sv vi vl0 := by
  intro F
  induction F with
  | zero =>
    intro x2 x3 x4 vi  h
    cases (show (none : Option (Int32 × VI)) = some (r, vi') from h)
  | succ F ih =>
    intro x2 x3 x4 vi  h
    rw [fX2_firstLooking_3] at h
    refine j_iload B dX2_firstLooking_3 4 rfl ?_
    refine j_bipush B dX2_firstLooking_5 (v := 60) (by decide) ?_
    refine j_icmp_ge (tgt := 37) B dX2_firstLooking_7 (by decide) (fun c => ?_) (fun c => ?_)
    · replace h := h_pos c h
      refine j_bipush B dX2_firstLooking_37 (v := (-2)) (by decide) ?_
      obtain ⟨e1, e2⟩ := Prod.mk.inj (Option.some.inj h)
      subst e1
      subst e2
      exact j_iret B E rfl dX2_firstLooking_39 (Nat.le_refl _) (Nat.le_refl _) ⟨rfl, rfl, rfl, rfl⟩
    · replace h := h_neg c h
      refine j_aload_n B dX2_firstLooking_10 rfl 0 rfl ?_
      refine j_aload_n B dX2_firstLooking_11 rfl 0 rfl ?_
      refine j_aload_n B dX2_firstLooking_12 rfl 1 rfl ?_
      refine j_iload_n B dX2_firstLooking_13 rfl 2 rfl ?_
      refine j_iload B dX2_firstLooking_14 4 rfl ?_
      obtain ⟨r1, hr1, h⟩ := h_bind h
      refine j_cVI (rest := [.ref (G.1 + 16)]) B (tX2_placeBehind hW (h1) hr1) cls2 (wf_18 hW) jt_RX2_72 wi_X2_placeBehind ws_X2_placeBehind rfl (by decide) (Nat.le_refl _) (Nat.le_refl _) rfl (Nat.le_of_ble_eq_true rfl) dX2_firstLooking_16 ?_
      refine j_iload_n B dX2_firstLooking_19 rfl 3 rfl ?_
      obtain ⟨r2, hr2, h⟩ := h_bind h
      refine j_cVJ (rest := []) B (tX2_waysFrom hW hr2) cls2 (wf_18 hW) jt_RX2_68 wi_X2_waysFrom ws_X2_waysFrom rfl (by decide) (Nat.le_refl _) (Nat.le_refl _) rfl (Nat.le_of_ble_eq_true rfl) dX2_firstLooking_20 ?_
      refine j_lconst B dX2_firstLooking_23 (v := 0) rfl ?_
      refine j_lcmp B dX2_firstLooking_24 ?_
      refine j_if_le (tgt := 31) B dX2_firstLooking_25 (by decide) (fun c => ?_) (fun c => ?_)
      · replace h := h_pos c h
        refine j_iinc (v := (x4 + 1)) (L' := [(4, .int (x4 + 1)), (0, .ref (G.1 + 16)), (1, .ref (G.1 + x1)), (2, .int x2), (3, .int x3)]) B dX2_firstLooking_31 4 rfl rfl (by decide) rfl ?_
        refine j_goto (tgt := 3) B dX2_firstLooking_34 (by decide) ?_
        refine j_locals [1, 2, 3, 4, 0] rfl ?_
        exact ih (x2) (x3) ((x4 + 1)) (r1.2)  h
      · replace h := h_neg c h
        refine j_iload B dX2_firstLooking_28 4 rfl ?_
        obtain ⟨e1, e2⟩ := Prod.mk.inj (Option.some.inj h)
        subst e1
        subst e2
        exact j_iret B E rfl dX2_firstLooking_30 (Nat.le_refl _) (Nat.le_refl _) ⟨rfl, rfl, rfl, rfl⟩
def fX2_firstLooking (x1 : Nat) (x2 : Int32) (x3 : Int32) (vi0 : VI) (vl0 : VL) : Option (Int32 × VI) := fX2_firstLooking_3 x1 vl0 FU x2 x3 0 vi0
theorem tX2_firstLooking {G : GT} {sv : SV} {vi0 : VI} {vl0 : VL} {ns : Nat} {x1 : Nat} {x2 : Int32} {x3 : Int32} {r : Int32} {vi' : VI} (hW : WF sv ns) (h1 : isSill sv x1) (h : fX2_firstLooking x1 x2 x3 vi0 vl0 = some (r, vi')) : Call G mX2_firstLooking 5 0 0 [.ref (G.1 + 16), .ref (G.1 + x1), .int x2, .int x3] sv vi0 vl0 (QI r sv vi' vl0) := by
  refine j_mk (by decide +kernel) (Nat.le_of_ble_eq_true rfl) (fun Γ B E => ?_)
  show J G Γ 0 0 0 [(0, .ref (G.1 + 16)), (1, .ref (G.1 + x1)), (2, .int x2), (3, .int x3)] [] sv vi0 vl0
  unfold fX2_firstLooking at h
  refine j_iconst B dX2_firstLooking_0 (v := 0) (by decide) ?_
  refine j_istore (L' := [(4, .int 0), (0, .ref (G.1 + 16)), (1, .ref (G.1 + x1)), (2, .int x2), (3, .int x3)]) B dX2_firstLooking_1 (by decide) rfl ?_
  refine j_locals [1, 2, 3, 4, 0] rfl ?_
  exact tX2_firstLooking_3 B E hW h1 FU (x2) (x3) (0) (vi0)  h
def fX5_add (o : Nat) (x1 : Int32) (vi0 : VI) : Option (VI) := if 121 ≤ (vi0 o 1) then some (vi0) else if inb (vi0 o 1) 121 = true then some ((j_up (j_up vi0 (o + 1) (vi0 o 1).toNatClampNeg x1) o 1 (((j_up vi0 (o + 1) (vi0 o 1).toNatClampNeg x1) o 1) + 1))) else none
theorem tX5_add {G : GT} {sv : SV} {vi0 : VI} {vl0 : VL} {o : Nat} {x1 : Int32} {vi' : VI} (ho : isLaw sv o) (h : fX5_add o x1 vi0 = some (vi')) : Call G mX5_add 0 0 0 [.ref (G.1 + o), .int x1] sv vi0 vl0 (QV sv vi' vl0) := by
  refine j_mk (by decide +kernel) (Nat.le_of_ble_eq_true rfl) (fun Γ B E => ?_)
  show J G Γ 0 0 0 [(0, .ref (G.1 + o)), (1, .int x1)] [] sv vi0 vl0
  unfold fX5_add at h
  refine j_aload_n B dX5_add_0 rfl 0 rfl ?_
  refine gf_RX5_21 B rfl ((ho).1) dX5_add_1 ?_
  refine j_aload_n B dX5_add_4 rfl 0 rfl ?_
  refine gf_RX5_11 B rfl ((ho).1) (ho).2.1 dX5_add_5 ?_
  refine j_alen (v := 121) B ((ho).2.2.2.2.1) (Or.inl rfl) (by decide) dX5_add_8 ?_
  refine j_icmp_ge (tgt := 32) B dX5_add_9 (by decide) (fun c => ?_) (fun c => ?_)
  · replace h := h_pos c h
    have e1 := Option.some.inj h
    subst e1
    exact j_vret B E rfl dX5_add_32 (Nat.le_refl _) (Nat.le_refl _) ⟨rfl, rfl, rfl, rfl⟩
  · replace h := h_neg c h
    refine j_aload_n B dX5_add_12 rfl 0 rfl ?_
    refine gf_RX5_11 B rfl ((ho).1) (ho).2.1 dX5_add_13 ?_
    refine j_aload_n B dX5_add_16 rfl 0 rfl ?_
    refine gf_RX5_21 B rfl ((ho).1) dX5_add_17 ?_
    refine j_iload_n B dX5_add_20 rfl 1 rfl ?_
    obtain ⟨b1, h⟩ := h_inb h
    refine j_iast B ((ho).2.2.2.2.1) b1 dX5_add_21 ?_
    refine j_aload_n B dX5_add_22 rfl 0 rfl ?_
    refine j_dup B dX5_add_23 rfl ?_
    refine gf_RX5_21 B rfl ((ho).1) dX5_add_24 ?_
    refine j_iconst B dX5_add_27 (v := 1) (by decide) ?_
    refine j_iadd B dX5_add_28 ?_
    refine pf_RX5_21 B rfl ((ho).1) dX5_add_29 ?_
    have e1 := Option.some.inj h
    subst e1
    exact j_vret B E rfl dX5_add_32 (Nat.le_refl _) (Nat.le_refl _) ⟨rfl, rfl, rfl, rfl⟩
def fX5_become (o : Nat) (x1 : Nat) (vi0 : VI) : Option (VI) := if cpok 0 0 121 121 121 = true then some ((j_up (j_row vi0 (o + 1) (va_cpy (vi0 (x1 + 1)) (vi0 (o + 1)) (0 : Int32).toNatClampNeg (0 : Int32).toNatClampNeg (121 : Int32).toNatClampNeg)) o 1 ((j_row vi0 (o + 1) (va_cpy (vi0 (x1 + 1)) (vi0 (o + 1)) (0 : Int32).toNatClampNeg (0 : Int32).toNatClampNeg (121 : Int32).toNatClampNeg)) x1 1))) else none
theorem tX5_become {G : GT} {sv : SV} {vi0 : VI} {vl0 : VL} {o : Nat} {x1 : Nat} {vi' : VI} (ho : isLaw sv o) (h1 : isLaw sv x1) (h : fX5_become o x1 vi0 = some (vi')) : Call G mX5_become 2 0 0 [.ref (G.1 + o), .ref (G.1 + x1)] sv vi0 vl0 (QV sv vi' vl0) := by
  refine j_mk (by decide +kernel) (Nat.le_of_ble_eq_true rfl) (fun Γ B E => ?_)
  show J G Γ 0 0 0 [(0, .ref (G.1 + o)), (1, .ref (G.1 + x1))] [] sv vi0 vl0
  unfold fX5_become at h
  refine j_aload_n B dX5_become_0 rfl 1 rfl ?_
  refine gf_RX5_11 B rfl ((h1).1) (h1).2.1 dX5_become_1 ?_
  refine j_iconst B dX5_become_4 (v := 0) (by decide) ?_
  refine j_aload_n B dX5_become_5 rfl 0 rfl ?_
  refine gf_RX5_11 B rfl ((ho).1) (ho).2.1 dX5_become_6 ?_
  refine j_iconst B dX5_become_9 (v := 0) (by decide) ?_
  refine j_aload_n B dX5_become_10 rfl 0 rfl ?_
  refine gf_RX5_11 B rfl ((ho).1) (ho).2.1 dX5_become_11 ?_
  refine j_alen (v := 121) B ((ho).2.2.2.2.1) (Or.inl rfl) (by decide) dX5_become_14 ?_
  obtain ⟨b1, h⟩ := h_cp h
  refine j_copyi B ((h1).2.2.2.2.1) ((ho).2.2.2.2.1) wl_RX5_25 wn_ac wst_ac wini_sys b1.1 b1.2.1 b1.2.2.1 b1.2.2.2.1 b1.2.2.2.2 (by decide) (Nat.le_of_ble_eq_true rfl) dX5_become_15 ?_
  refine j_aload_n B dX5_become_18 rfl 0 rfl ?_
  refine j_aload_n B dX5_become_19 rfl 1 rfl ?_
  refine gf_RX5_21 B rfl ((h1).1) dX5_become_20 ?_
  refine pf_RX5_21 B rfl ((ho).1) dX5_become_23 ?_
  have e1 := Option.some.inj h
  subst e1
  exact j_vret B E rfl dX5_become_26 (Nat.le_refl _) (Nat.le_refl _) ⟨rfl, rfl, rfl, rfl⟩
def fX6_isRow (o : Nat) (vi0 : VI) : Option (Bool) := if (vi0 o 0) = 2 then some (true) else some (false)
theorem tX6_isRow {G : GT} {sv : SV} {vi0 : VI} {vl0 : VL} {o : Nat} {r : Bool} (ho : isShelf sv o) (h : fX6_isRow o vi0 = some (r)) : Call G mX6_isRow 0 0 0 [.ref (G.1 + o)] sv vi0 vl0 (QI (b2i r) sv vi0 vl0) := by
  refine j_mk (by decide +kernel) (Nat.le_of_ble_eq_true rfl) (fun Γ B E => ?_)
  show J G Γ 0 0 0 [(0, .ref (G.1 + o))] [] sv vi0 vl0
  unfold fX6_isRow at h
  refine j_aload_n B dX6_isRow_0 rfl 0 rfl ?_
  refine gf_RX6_15 B rfl ((ho).1) dX6_isRow_1 ?_
  refine j_iconst B dX6_isRow_4 (v := 2) (by decide) ?_
  refine j_icmp_ne (tgt := 12) B dX6_isRow_5 (by decide) (fun c => ?_) (fun c => ?_)
  · replace h := h_neg c h
    refine j_iconst B dX6_isRow_12 (v := 0) (by decide) ?_
    have e1 := Option.some.inj h
    subst e1
    exact j_zret B E rfl (Or.inl rfl) dX6_isRow_13 (Nat.le_refl _) (Nat.le_refl _) ⟨rfl, rfl, rfl, rfl⟩
  · replace h := h_pos c h
    refine j_iconst B dX6_isRow_8 (v := 1) (by decide) ?_
    refine j_goto (tgt := 13) B dX6_isRow_9 (by decide) ?_
    have e1 := Option.some.inj h
    subst e1
    exact j_zret B E rfl (Or.inr rfl) dX6_isRow_13 (Nat.le_refl _) (Nat.le_refl _) ⟨rfl, rfl, rfl, rfl⟩
