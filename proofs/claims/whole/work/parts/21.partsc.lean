def fX6_isBytes (o : Nat) (vi0 : VI) : Option (Bool) := (fX6_isRow o vi0).bind fun r1 => if r1 = true then if (vi0 o 2) = 0 then some (true) else some (false) else some (false)
theorem tX6_isBytes {G : GT} {sv : SV} {vi0 : VI} {vl0 : VL} {o : Nat} {r : Bool} (ho : isShelf sv o) (h : fX6_isBytes o vi0 = some (r)) : Call G mX6_isBytes 1 0 0 [.ref (G.1 + o)] sv vi0 vl0 (QI (b2i r) sv vi0 vl0) := by
  refine j_mk (by decide +kernel) (Nat.le_of_ble_eq_true rfl) (fun Γ B E => ?_)
  show J G Γ 0 0 0 [(0, .ref (G.1 + o))] [] sv vi0 vl0
  unfold fX6_isBytes at h
  refine j_aload_n B dX6_isBytes_0 rfl 0 rfl ?_
  obtain ⟨r1, hr1, h⟩ := h_bind h
  refine j_cVI (rest := []) B (tX6_isRow (ho) hr1) cls6 ((ho).1) jt_RX6_19 wi_X6_isRow ws_X6_isRow rfl (by decide) (Nat.le_refl _) (Nat.le_refl _) rfl (Nat.le_of_ble_eq_true rfl) dX6_isBytes_1 ?_
  refine j_if_eq (tgt := 18) B dX6_isBytes_4 (by decide) (fun c => ?_) (fun c => ?_)
  · replace h := h_neg (b2i_0 c) h
    refine j_iconst B dX6_isBytes_18 (v := 0) (by decide) ?_
    have e1 := Option.some.inj h
    subst e1
    exact j_zret B E rfl (Or.inl rfl) dX6_isBytes_19 (Nat.le_refl _) (Nat.le_refl _) ⟨rfl, rfl, rfl, rfl⟩
  · replace h := h_pos (b2i_1 c) h
    refine j_aload_n B dX6_isBytes_7 rfl 0 rfl ?_
    refine gf_RX6_23 B rfl ((ho).1) dX6_isBytes_8 ?_
    refine j_if_ne (tgt := 18) B dX6_isBytes_11 (by decide) (fun c => ?_) (fun c => ?_)
    · replace h := h_neg c h
      refine j_iconst B dX6_isBytes_18 (v := 0) (by decide) ?_
      have e1 := Option.some.inj h
      subst e1
      exact j_zret B E rfl (Or.inl rfl) dX6_isBytes_19 (Nat.le_refl _) (Nat.le_refl _) ⟨rfl, rfl, rfl, rfl⟩
    · replace h := h_pos c h
      refine j_iconst B dX6_isBytes_14 (v := 1) (by decide) ?_
      refine j_goto (tgt := 19) B dX6_isBytes_15 (by decide) ?_
      have e1 := Option.some.inj h
      subst e1
      exact j_zret B E rfl (Or.inr rfl) dX6_isBytes_19 (Nat.le_refl _) (Nat.le_refl _) ⟨rfl, rfl, rfl, rfl⟩
def fX6_hasPlaces (o : Nat) (x1 : Int32) (x2 : Int32) (vi0 : VI) : Option (Bool) := if x1 < 0 then some (false) else if x2 < 0 then some (false) else if (vi0 o 3) < x2 then some (false) else if ((vi0 o 3) - x2) < x1 then some (false) else some (true)
theorem tX6_hasPlaces {G : GT} {sv : SV} {vi0 : VI} {vl0 : VL} {o : Nat} {x1 : Int32} {x2 : Int32} {r : Bool} (ho : isShelf sv o) (h : fX6_hasPlaces o x1 x2 vi0 = some (r)) : Call G mX6_hasPlaces 0 0 0 [.ref (G.1 + o), .int x1, .int x2] sv vi0 vl0 (QI (b2i r) sv vi0 vl0) := by
  refine j_mk (by decide +kernel) (Nat.le_of_ble_eq_true rfl) (fun Γ B E => ?_)
  show J G Γ 0 0 0 [(0, .ref (G.1 + o)), (1, .int x1), (2, .int x2)] [] sv vi0 vl0
  unfold fX6_hasPlaces at h
  refine j_iload_n B dX6_hasPlaces_0 rfl 1 rfl ?_
  refine j_if_lt (tgt := 30) B dX6_hasPlaces_1 (by decide) (fun c => ?_) (fun c => ?_)
  · replace h := h_pos c h
    refine j_iconst B dX6_hasPlaces_30 (v := 0) (by decide) ?_
    have e1 := Option.some.inj h
    subst e1
    exact j_zret B E rfl (Or.inl rfl) dX6_hasPlaces_31 (Nat.le_refl _) (Nat.le_refl _) ⟨rfl, rfl, rfl, rfl⟩
  · replace h := h_neg c h
    refine j_iload_n B dX6_hasPlaces_4 rfl 2 rfl ?_
    refine j_if_lt (tgt := 30) B dX6_hasPlaces_5 (by decide) (fun c => ?_) (fun c => ?_)
    · replace h := h_pos c h
      refine j_iconst B dX6_hasPlaces_30 (v := 0) (by decide) ?_
      have e1 := Option.some.inj h
      subst e1
      exact j_zret B E rfl (Or.inl rfl) dX6_hasPlaces_31 (Nat.le_refl _) (Nat.le_refl _) ⟨rfl, rfl, rfl, rfl⟩
    · replace h := h_neg c h
      refine j_iload_n B dX6_hasPlaces_8 rfl 2 rfl ?_
      refine j_aload_n B dX6_hasPlaces_9 rfl 0 rfl ?_
      refine gf_RX6_26 B rfl ((ho).1) dX6_hasPlaces_10 ?_
      refine j_icmp_gt (tgt := 30) B dX6_hasPlaces_13 (by decide) (fun c => ?_) (fun c => ?_)
      · replace h := h_pos c h
        refine j_iconst B dX6_hasPlaces_30 (v := 0) (by decide) ?_
        have e1 := Option.some.inj h
        subst e1
        exact j_zret B E rfl (Or.inl rfl) dX6_hasPlaces_31 (Nat.le_refl _) (Nat.le_refl _) ⟨rfl, rfl, rfl, rfl⟩
      · replace h := h_neg c h
        refine j_iload_n B dX6_hasPlaces_16 rfl 1 rfl ?_
        refine j_aload_n B dX6_hasPlaces_17 rfl 0 rfl ?_
        refine gf_RX6_26 B rfl ((ho).1) dX6_hasPlaces_18 ?_
        refine j_iload_n B dX6_hasPlaces_21 rfl 2 rfl ?_
        refine j_isub B dX6_hasPlaces_22 ?_
        refine j_icmp_gt (tgt := 30) B dX6_hasPlaces_23 (by decide) (fun c => ?_) (fun c => ?_)
        · replace h := h_pos c h
          refine j_iconst B dX6_hasPlaces_30 (v := 0) (by decide) ?_
          have e1 := Option.some.inj h
          subst e1
          exact j_zret B E rfl (Or.inl rfl) dX6_hasPlaces_31 (Nat.le_refl _) (Nat.le_refl _) ⟨rfl, rfl, rfl, rfl⟩
        · replace h := h_neg c h
          refine j_iconst B dX6_hasPlaces_26 (v := 1) (by decide) ?_
          refine j_goto (tgt := 31) B dX6_hasPlaces_27 (by decide) ?_
          have e1 := Option.some.inj h
          subst e1
          exact j_zret B E rfl (Or.inr rfl) dX6_hasPlaces_31 (Nat.le_refl _) (Nat.le_refl _) ⟨rfl, rfl, rfl, rfl⟩
def fX6_lowestBits (o : Nat) (x1 : Int64) (vi0 : VI) : Option (Int64) := if (vi0 o 2) = 0 then some ((x1.toInt32 : Int32).toInt8.toInt32.toInt64) else if (vi0 o 2) = 1 then some ((x1.toInt32 : Int32).toInt16.toInt32.toInt64) else if (vi0 o 2) = 2 then some ((x1.toInt32 : Int32).toInt64) else if (vi0 o 2) = 3 then some (x1) else if (lg_cmp x1 0) = 0 then some (0) else some (1)
theorem tX6_lowestBits {G : GT} {sv : SV} {vi0 : VI} {vl0 : VL} {o : Nat} {x1 : Int64} {r : Int64} (ho : isShelf sv o) (h : fX6_lowestBits o x1 vi0 = some (r)) : Call G mX6_lowestBits 0 0 0 [.ref (G.1 + o), .long x1] sv vi0 vl0 (QJ r sv vi0 vl0) := by
  refine j_mk (by decide +kernel) (Nat.le_of_ble_eq_true rfl) (fun Γ B E => ?_)
  show J G Γ 0 0 0 [(0, .ref (G.1 + o)), (1, .long x1)] [] sv vi0 vl0
  unfold fX6_lowestBits at h
  refine j_aload_n B dX6_lowestBits_0 rfl 0 rfl ?_
  refine gf_RX6_23 B rfl ((ho).1) dX6_lowestBits_1 ?_
  by_cases c0 : (vi0 o 2) = 0
  · replace h := h_pos c0 h
    refine j_tableIn (off := 32) (tgt := 36) B dX6_lowestBits_4 (by rw [c0]; decide) (by rw [c0]; decide) (by rw [c0]; decide) (by decide) ?_
    refine j_lload_n B dX6_lowestBits_36 rfl 1 rfl ?_
    refine j_l2i B dX6_lowestBits_37 ?_
    refine j_i2b B dX6_lowestBits_38 ?_
    refine j_i2l B dX6_lowestBits_39 ?_
    have e1 := Option.some.inj h
    subst e1
    exact j_lret B E rfl dX6_lowestBits_40 (Nat.le_refl _) (Nat.le_refl _) ⟨rfl, rfl, rfl, rfl⟩
  replace h := h_neg c0 h
  by_cases c1 : (vi0 o 2) = 1
  · replace h := h_pos c1 h
    refine j_tableIn (off := 37) (tgt := 41) B dX6_lowestBits_4 (by rw [c1]; decide) (by rw [c1]; decide) (by rw [c1]; decide) (by decide) ?_
    refine j_lload_n B dX6_lowestBits_41 rfl 1 rfl ?_
    refine j_l2i B dX6_lowestBits_42 ?_
    refine j_i2s B dX6_lowestBits_43 ?_
    refine j_i2l B dX6_lowestBits_44 ?_
    have e1 := Option.some.inj h
    subst e1
    exact j_lret B E rfl dX6_lowestBits_45 (Nat.le_refl _) (Nat.le_refl _) ⟨rfl, rfl, rfl, rfl⟩
  replace h := h_neg c1 h
  by_cases c2 : (vi0 o 2) = 2
  · replace h := h_pos c2 h
    refine j_tableIn (off := 42) (tgt := 46) B dX6_lowestBits_4 (by rw [c2]; decide) (by rw [c2]; decide) (by rw [c2]; decide) (by decide) ?_
    refine j_lload_n B dX6_lowestBits_46 rfl 1 rfl ?_
    refine j_l2i B dX6_lowestBits_47 ?_
    refine j_i2l B dX6_lowestBits_48 ?_
    have e1 := Option.some.inj h
    subst e1
    exact j_lret B E rfl dX6_lowestBits_49 (Nat.le_refl _) (Nat.le_refl _) ⟨rfl, rfl, rfl, rfl⟩
  replace h := h_neg c2 h
  by_cases c3 : (vi0 o 2) = 3
  · replace h := h_pos c3 h
    refine j_tableIn (off := 46) (tgt := 50) B dX6_lowestBits_4 (by rw [c3]; decide) (by rw [c3]; decide) (by rw [c3]; decide) (by decide) ?_
    refine j_lload_n B dX6_lowestBits_50 rfl 1 rfl ?_
    have e1 := Option.some.inj h
    subst e1
    exact j_lret B E rfl dX6_lowestBits_51 (Nat.le_refl _) (Nat.le_refl _) ⟨rfl, rfl, rfl, rfl⟩
  replace h := h_neg c3 h
  refine j_tableOut (tgt := 52) B dX6_lowestBits_4 (by have n0 := lv_neT c0 (a := 0) (by decide); have n1 := lv_neT c1 (a := 1) (by decide); have n2 := lv_neT c2 (a := 2) (by decide); have n3 := lv_neT c3 (a := 3) (by decide); omega) (by decide) ?_
  refine j_lload_n B dX6_lowestBits_52 rfl 1 rfl ?_
  refine j_lconst B dX6_lowestBits_53 (v := 0) rfl ?_
  refine j_lcmp B dX6_lowestBits_54 ?_
  refine j_if_eq (tgt := 62) B dX6_lowestBits_55 (by decide) (fun c => ?_) (fun c => ?_)
  · replace h := h_pos c h
    refine j_lconst B dX6_lowestBits_62 (v := 0) rfl ?_
    have e1 := Option.some.inj h
    subst e1
    exact j_lret B E rfl dX6_lowestBits_63 (Nat.le_refl _) (Nat.le_refl _) ⟨rfl, rfl, rfl, rfl⟩
  · replace h := h_neg c h
    refine j_lconst B dX6_lowestBits_58 (v := 1) rfl ?_
    refine j_goto (tgt := 63) B dX6_lowestBits_59 (by decide) ?_
    have e1 := Option.some.inj h
    subst e1
    exact j_lret B E rfl dX6_lowestBits_63 (Nat.le_refl _) (Nat.le_refl _) ⟨rfl, rfl, rfl, rfl⟩
def fX7_layOn (o : Nat) (x1 : Nat) (x2 : Int32) (x3 : Int32) (vi0 : VI) : Option (Int32 × VI) := (fX7_gives o (vi0 x1 2) x2 x3 vi0).bind fun r1 => (fX3_settle x1 x2 r1.1 r1.2).bind fun r2 => some (r2.1, r2.2)
theorem tX7_layOn {G : GT} {sv : SV} {vi0 : VI} {vl0 : VL} {ns : Nat} {o : Nat} {x1 : Nat} {x2 : Int32} {x3 : Int32} {r : Int32} {vi' : VI} (hW : WF sv ns) (ho : isSill sv o) (h1 : isDust sv x1) (h : fX7_layOn o x1 x2 x3 vi0 = some (r, vi')) : Call G mX7_layOn 4 0 0 [.ref (G.1 + o), .ref (G.1 + x1), .int x2, .int x3] sv vi0 vl0 (QI r sv vi' vl0) := by
  refine j_mk (by decide +kernel) (Nat.le_of_ble_eq_true rfl) (fun Γ B E => ?_)
  show J G Γ 0 0 0 [(0, .ref (G.1 + o)), (1, .ref (G.1 + x1)), (2, .int x2), (3, .int x3)] [] sv vi0 vl0
  unfold fX7_layOn at h
  refine j_aload_n B dX7_layOn_0 rfl 1 rfl ?_
  refine j_iload_n B dX7_layOn_1 rfl 2 rfl ?_
  refine j_aload_n B dX7_layOn_2 rfl 0 rfl ?_
  refine j_aload_n B dX7_layOn_3 rfl 1 rfl ?_
  refine gf_RX7_48 B rfl ((h1).1) dX7_layOn_4 ?_
  refine j_iload_n B dX7_layOn_7 rfl 2 rfl ?_
  refine j_iload_n B dX7_layOn_8 rfl 3 rfl ?_
  obtain ⟨r1, hr1, h⟩ := h_bind h
  refine j_cVI (rest := [.int x2, .ref (G.1 + x1)]) B (tX7_gives hW (ho) hr1) cls7 ((ho).1) jt_RX7_51 wi_X7_gives ws_X7_gives rfl (by decide) (Nat.le_refl _) (Nat.le_refl _) rfl (Nat.le_of_ble_eq_true rfl) dX7_layOn_9 ?_
  obtain ⟨r2, hr2, h⟩ := h_bind h
  refine j_cVI (rest := []) B (tX3_settle (h1) hr2) cls3 ((h1).1) jt_RX7_55 wi_X3_settle ws_X3_settle rfl (by decide) (Nat.le_refl _) (Nat.le_refl _) rfl (Nat.le_of_ble_eq_true rfl) dX7_layOn_12 ?_
  obtain ⟨e1, e2⟩ := Prod.mk.inj (Option.some.inj h)
  subst e1
  subst e2
  exact j_iret B E rfl dX7_layOn_15 (Nat.le_refl _) (Nat.le_refl _) ⟨rfl, rfl, rfl, rfl⟩
def fX7_forget (o : Nat) (vi0 : VI) : Option (VI) := (fJ7_fill_031fb (o + 4) 780 0 vi0).bind fun r1 => some (r1)
theorem tX7_forget {G : GT} {sv : SV} {vi0 : VI} {vl0 : VL} {o : Nat} {vi' : VI} (ho : isSill sv o) (h : fX7_forget o vi0 = some (vi')) : Call G mX7_forget 1 0 0 [.ref (G.1 + o)] sv vi0 vl0 (QV sv vi' vl0) := by
  refine j_mk (by decide +kernel) (Nat.le_of_ble_eq_true rfl) (fun Γ B E => ?_)
  show J G Γ 0 0 0 [(0, .ref (G.1 + o))] [] sv vi0 vl0
  unfold fX7_forget at h
  refine j_aload_n B dX7_forget_0 rfl 0 rfl ?_
  refine gf_RX7_18 B rfl ((ho).1) (ho).2.2.2.1 dX7_forget_1 ?_
  refine j_iconst B dX7_forget_4 (v := 0) (by decide) ?_
  obtain ⟨r1, hr1, h⟩ := h_bind h
  refine j_cSV (rest := []) B (tJ7_fill_031fb ((ho).2.2.2.2.1) hr1) jt_RX7_58 wst_J7_fill_031fb rfl (by decide) (Nat.le_refl _) (Nat.le_refl _) rfl (Nat.le_of_ble_eq_true rfl) dX7_forget_5 ?_
  have e1 := Option.some.inj h
  subst e1
  exact j_vret B E rfl dX7_forget_8 (Nat.le_refl _) (Nat.le_refl _) ⟨rfl, rfl, rfl, rfl⟩
def fX8_add (x1 : Int32) (vi0 : VI) : Option (Bool × VI) := if (vi0 3 1) < 120 then if inb (vi0 3 1) 120 = true then some (true, (j_up (j_up vi0 4 (vi0 3 1).toNatClampNeg x1) 3 1 (((j_up vi0 4 (vi0 3 1).toNatClampNeg x1) 3 1) + 1))) else none else some (false, vi0)
theorem tX8_add {G : GT} {sv : SV} {vi0 : VI} {vl0 : VL} {ns : Nat} {x1 : Int32} {r : Bool} {vi' : VI} (hW : WF sv ns) (h : fX8_add x1 vi0 = some (r, vi')) : Call G mX8_add 0 0 0 [.ref (G.1 + 3), .int x1] sv vi0 vl0 (QI (b2i r) sv vi' vl0) := by
  refine j_mk (by decide +kernel) (Nat.le_of_ble_eq_true rfl) (fun Γ B E => ?_)
  show J G Γ 0 0 0 [(0, .ref (G.1 + 3)), (1, .int x1)] [] sv vi0 vl0
  unfold fX8_add at h
  refine j_aload_n B dX8_add_0 rfl 0 rfl ?_
  refine gf_RX8_15 B rfl (wf_5 hW) dX8_add_1 ?_
  refine j_bipush B dX8_add_4 (v := 120) (by decide) ?_
  refine j_icmp_lt (tgt := 11) B dX8_add_6 (by decide) (fun c => ?_) (fun c => ?_)
  · replace h := h_pos c h
    refine j_aload_n B dX8_add_11 rfl 0 rfl ?_
    refine gf_RX8_9 B rfl (wf_5 hW) (wf_103 hW) dX8_add_12 ?_
    refine j_aload_n B dX8_add_15 rfl 0 rfl ?_
    refine gf_RX8_15 B rfl (wf_5 hW) dX8_add_16 ?_
    refine j_iload_n B dX8_add_19 rfl 1 rfl ?_
    obtain ⟨b1, h⟩ := h_inb h
    refine j_iast B ((wf_6 hW)) b1 dX8_add_20 ?_
    refine j_aload_n B dX8_add_21 rfl 0 rfl ?_
    refine j_dup B dX8_add_22 rfl ?_
    refine gf_RX8_15 B rfl (wf_5 hW) dX8_add_23 ?_
    refine j_iconst B dX8_add_26 (v := 1) (by decide) ?_
    refine j_iadd B dX8_add_27 ?_
    refine pf_RX8_15 B rfl (wf_5 hW) dX8_add_28 ?_
    refine j_iconst B dX8_add_31 (v := 1) (by decide) ?_
    obtain ⟨e1, e2⟩ := Prod.mk.inj (Option.some.inj h)
    subst e1
    subst e2
    exact j_zret B E rfl (Or.inr rfl) dX8_add_32 (Nat.le_refl _) (Nat.le_refl _) ⟨rfl, rfl, rfl, rfl⟩
  · replace h := h_neg c h
    refine j_iconst B dX8_add_9 (v := 0) (by decide) ?_
    obtain ⟨e1, e2⟩ := Prod.mk.inj (Option.some.inj h)
    subst e1
    subst e2
    exact j_zret B E rfl (Or.inl rfl) dX8_add_10 (Nat.le_refl _) (Nat.le_refl _) ⟨rfl, rfl, rfl, rfl⟩
def fX8_partOfSign_24 (vi0 : VI) (s0 : Int32) : Option (Int32) := if s0 = 37 then some (4) else if s0 = 38 then some (1) else if s0 = 42 then some (4) else if s0 = 43 then some (3) else if s0 = 45 then some (3) else if s0 = 47 then some (4) else if s0 = 60 then some (2) else if s0 = 61 then some (2) else if s0 = 62 then some (2) else if s0 = 124 then some (0) else some ((-1))
theorem tX8_partOfSign_24 {G : GT} {sv : SV} {vi0 : VI} {vl0 : VL} {ns : Nat} {Γ : CT} {r : Int32} (B : Base G Γ mX8_partOfSign 0 0 0) (E : Ends G Γ 0 0 (QI r sv vi0 vl0)) (hW : WF sv ns) : ∀ (s0 : Int32), fX8_partOfSign_24 vi0 s0 = some (r) → J G Γ 0 0 24 [] [.int s0] sv vi0 vl0 := by
  intro s0  h
  unfold fX8_partOfSign_24 at h
  by_cases c0 : s0 = 37
  · replace h := h_pos c0 h
    refine j_lookup (off := 100) (tgt := 124) B dX8_partOfSign_24 (by decide +kernel) (by rw [c0]; decide +kernel) (by decide) ?_
    refine j_iconst B dX8_partOfSign_124 (v := 4) (by decide) ?_
    have e1 := Option.some.inj h
    subst e1
    exact j_iret B E rfl dX8_partOfSign_125 (Nat.le_refl _) (Nat.le_refl _) ⟨rfl, rfl, rfl, rfl⟩
  replace h := h_neg c0 h
  by_cases c1 : s0 = 38
  · replace h := h_pos c1 h
    refine j_lookup (off := 94) (tgt := 118) B dX8_partOfSign_24 (by decide +kernel) (by rw [c1]; decide +kernel) (by decide) ?_
    refine j_iconst B dX8_partOfSign_118 (v := 1) (by decide) ?_
    have e1 := Option.some.inj h
    subst e1
    exact j_iret B E rfl dX8_partOfSign_119 (Nat.le_refl _) (Nat.le_refl _) ⟨rfl, rfl, rfl, rfl⟩
  replace h := h_neg c1 h
  by_cases c2 : s0 = 42
  · replace h := h_pos c2 h
    refine j_lookup (off := 100) (tgt := 124) B dX8_partOfSign_24 (by decide +kernel) (by rw [c2]; decide +kernel) (by decide) ?_
    refine j_iconst B dX8_partOfSign_124 (v := 4) (by decide) ?_
    have e1 := Option.some.inj h
    subst e1
    exact j_iret B E rfl dX8_partOfSign_125 (Nat.le_refl _) (Nat.le_refl _) ⟨rfl, rfl, rfl, rfl⟩
  replace h := h_neg c2 h
  by_cases c3 : s0 = 43
  · replace h := h_pos c3 h
    refine j_lookup (off := 98) (tgt := 122) B dX8_partOfSign_24 (by decide +kernel) (by rw [c3]; decide +kernel) (by decide) ?_
    refine j_iconst B dX8_partOfSign_122 (v := 3) (by decide) ?_
    have e1 := Option.some.inj h
    subst e1
    exact j_iret B E rfl dX8_partOfSign_123 (Nat.le_refl _) (Nat.le_refl _) ⟨rfl, rfl, rfl, rfl⟩
  replace h := h_neg c3 h
  by_cases c4 : s0 = 45
  · replace h := h_pos c4 h
    refine j_lookup (off := 98) (tgt := 122) B dX8_partOfSign_24 (by decide +kernel) (by rw [c4]; decide +kernel) (by decide) ?_
    refine j_iconst B dX8_partOfSign_122 (v := 3) (by decide) ?_
    have e1 := Option.some.inj h
    subst e1
    exact j_iret B E rfl dX8_partOfSign_123 (Nat.le_refl _) (Nat.le_refl _) ⟨rfl, rfl, rfl, rfl⟩
  replace h := h_neg c4 h
  by_cases c5 : s0 = 47
  · replace h := h_pos c5 h
    refine j_lookup (off := 100) (tgt := 124) B dX8_partOfSign_24 (by decide +kernel) (by rw [c5]; decide +kernel) (by decide) ?_
    refine j_iconst B dX8_partOfSign_124 (v := 4) (by decide) ?_
    have e1 := Option.some.inj h
    subst e1
    exact j_iret B E rfl dX8_partOfSign_125 (Nat.le_refl _) (Nat.le_refl _) ⟨rfl, rfl, rfl, rfl⟩
  replace h := h_neg c5 h
  by_cases c6 : s0 = 60
  · replace h := h_pos c6 h
    refine j_lookup (off := 96) (tgt := 120) B dX8_partOfSign_24 (by decide +kernel) (by rw [c6]; decide +kernel) (by decide) ?_
    refine j_iconst B dX8_partOfSign_120 (v := 2) (by decide) ?_
    have e1 := Option.some.inj h
    subst e1
    exact j_iret B E rfl dX8_partOfSign_121 (Nat.le_refl _) (Nat.le_refl _) ⟨rfl, rfl, rfl, rfl⟩
  replace h := h_neg c6 h
  by_cases c7 : s0 = 61
  · replace h := h_pos c7 h
    refine j_lookup (off := 96) (tgt := 120) B dX8_partOfSign_24 (by decide +kernel) (by rw [c7]; decide +kernel) (by decide) ?_
    refine j_iconst B dX8_partOfSign_120 (v := 2) (by decide) ?_
    have e1 := Option.some.inj h
    subst e1
    exact j_iret B E rfl dX8_partOfSign_121 (Nat.le_refl _) (Nat.le_refl _) ⟨rfl, rfl, rfl, rfl⟩
  replace h := h_neg c7 h
  by_cases c8 : s0 = 62
  · replace h := h_pos c8 h
    refine j_lookup (off := 96) (tgt := 120) B dX8_partOfSign_24 (by decide +kernel) (by rw [c8]; decide +kernel) (by decide) ?_
    refine j_iconst B dX8_partOfSign_120 (v := 2) (by decide) ?_
    have e1 := Option.some.inj h
    subst e1
    exact j_iret B E rfl dX8_partOfSign_121 (Nat.le_refl _) (Nat.le_refl _) ⟨rfl, rfl, rfl, rfl⟩
  replace h := h_neg c8 h
  by_cases c9 : s0 = 124
  · replace h := h_pos c9 h
    refine j_lookup (off := 92) (tgt := 116) B dX8_partOfSign_24 (by decide +kernel) (by rw [c9]; decide +kernel) (by decide) ?_
    refine j_iconst B dX8_partOfSign_116 (v := 0) (by decide) ?_
    have e1 := Option.some.inj h
    subst e1
    exact j_iret B E rfl dX8_partOfSign_117 (Nat.le_refl _) (Nat.le_refl _) ⟨rfl, rfl, rfl, rfl⟩
  replace h := h_neg c9 h
  refine j_lookup (off := 102) (tgt := 126) B dX8_partOfSign_24 (by decide +kernel) (by show Op.lookupswitch.offset _ _ _ = _; rw [lv_osw c0 (by decide), lv_osw c1 (by decide), lv_osw c2 (by decide), lv_osw c3 (by decide), lv_osw c4 (by decide), lv_osw c5 (by decide), lv_osw c6 (by decide), lv_osw c7 (by decide), lv_osw c8 (by decide), lv_osw c9 (by decide)]; rfl) (by decide) ?_
  refine j_iconst B dX8_partOfSign_126 (v := (-1)) (by decide) ?_
  have e1 := Option.some.inj h
  subst e1
  exact j_iret B E rfl dX8_partOfSign_127 (Nat.le_refl _) (Nat.le_refl _) ⟨rfl, rfl, rfl, rfl⟩
def fX8_partOfSign  (vi0 : VI) : Option (Int32) := if (vi0 3 1) ≤ (vi0 3 2) then fX8_partOfSign_24 vi0 (-1) else if inb (vi0 3 2) 120 = true then fX8_partOfSign_24 vi0 (vi0 4 (vi0 3 2).toNatClampNeg) else none
theorem tX8_partOfSign {G : GT} {sv : SV} {vi0 : VI} {vl0 : VL} {ns : Nat} {r : Int32} (hW : WF sv ns) (h : fX8_partOfSign vi0 = some (r)) : Call G mX8_partOfSign 0 0 0 [.ref (G.1 + 3)] sv vi0 vl0 (QI r sv vi0 vl0) := by
  refine j_mk (by decide +kernel) (Nat.le_of_ble_eq_true rfl) (fun Γ B E => ?_)
  show J G Γ 0 0 0 [(0, .ref (G.1 + 3))] [] sv vi0 vl0
  unfold fX8_partOfSign at h
  refine j_aload_n B dX8_partOfSign_0 rfl 0 rfl ?_
  refine gf_RX8_28 B rfl (wf_5 hW) dX8_partOfSign_1 ?_
  refine j_aload_n B dX8_partOfSign_4 rfl 0 rfl ?_
  refine gf_RX8_15 B rfl (wf_5 hW) dX8_partOfSign_5 ?_
  refine j_icmp_ge (tgt := 23) B dX8_partOfSign_8 (by decide) (fun c => ?_) (fun c => ?_)
  · replace h := h_pos c h
    refine j_iconst B dX8_partOfSign_23 (v := (-1)) (by decide) ?_
    refine j_locals [] rfl ?_
    exact tX8_partOfSign_24 B E hW ((-1))  h
  · replace h := h_neg c h
    refine j_aload_n B dX8_partOfSign_11 rfl 0 rfl ?_
    refine gf_RX8_9 B rfl (wf_5 hW) (wf_103 hW) dX8_partOfSign_12 ?_
    refine j_aload_n B dX8_partOfSign_15 rfl 0 rfl ?_
    refine gf_RX8_28 B rfl (wf_5 hW) dX8_partOfSign_16 ?_
    obtain ⟨b1, h⟩ := h_inb h
    refine j_iald B ((wf_6 hW)) b1 dX8_partOfSign_19 ?_
    refine j_goto (tgt := 24) B dX8_partOfSign_20 (by decide) ?_
    refine j_locals [] rfl ?_
    exact tX8_partOfSign_24 B E hW ((vi0 4 (vi0 3 2).toNatClampNeg))  h
def fX8_nameOf (x0 : Int32)  : Option (Int32) := if x0 = 103 then some (2) else if x0 = 104 then some (1) else if x0 = 105 then some ((-1)) else if x0 = 106 then some ((-1)) else if x0 = 107 then some (4) else if x0 = 108 then some ((-1)) else if x0 = 109 then some ((-1)) else if x0 = 110 then some (0) else if x0 = 111 then some ((-1)) else if x0 = 112 then some ((-1)) else if x0 = 113 then some ((-1)) else if x0 = 114 then some ((-1)) else if x0 = 115 then some (3) else if x0 = 116 then some ((-1)) else if x0 = 117 then some ((-1)) else if x0 = 118 then some ((-1)) else if x0 = 119 then some (5) else some ((-1))
theorem tX8_nameOf {G : GT} {sv : SV} {vi0 : VI} {vl0 : VL} {x0 : Int32} {r : Int32} (h : fX8_nameOf x0 = some (r)) : Call G mX8_nameOf 0 0 0 [.int x0] sv vi0 vl0 (QI r sv vi0 vl0) := by
  refine j_mk (by decide +kernel) (Nat.le_of_ble_eq_true rfl) (fun Γ B E => ?_)
  show J G Γ 0 0 0 [(0, .int x0)] [] sv vi0 vl0
  unfold fX8_nameOf at h
  refine j_iload_n B dX8_nameOf_0 rfl 0 rfl ?_
  by_cases c0 : x0 = 103
  · replace h := h_pos c0 h
    refine j_tableIn (off := 87) (tgt := 88) B dX8_nameOf_1 (by rw [c0]; decide) (by rw [c0]; decide) (by rw [c0]; decide) (by decide) ?_
    refine j_iconst B dX8_nameOf_88 (v := 2) (by decide) ?_
    have e1 := Option.some.inj h
    subst e1
    exact j_iret B E rfl dX8_nameOf_89 (Nat.le_refl _) (Nat.le_refl _) ⟨rfl, rfl, rfl, rfl⟩
  replace h := h_neg c0 h
  by_cases c1 : x0 = 104
  · replace h := h_pos c1 h
    refine j_tableIn (off := 85) (tgt := 86) B dX8_nameOf_1 (by rw [c1]; decide) (by rw [c1]; decide) (by rw [c1]; decide) (by decide) ?_
    refine j_iconst B dX8_nameOf_86 (v := 1) (by decide) ?_
    have e1 := Option.some.inj h
    subst e1
    exact j_iret B E rfl dX8_nameOf_87 (Nat.le_refl _) (Nat.le_refl _) ⟨rfl, rfl, rfl, rfl⟩
  replace h := h_neg c1 h
  by_cases c2 : x0 = 105
  · replace h := h_pos c2 h
    refine j_tableIn (off := 95) (tgt := 96) B dX8_nameOf_1 (by rw [c2]; decide) (by rw [c2]; decide) (by rw [c2]; decide) (by decide) ?_
    refine j_iconst B dX8_nameOf_96 (v := (-1)) (by decide) ?_
    have e1 := Option.some.inj h
    subst e1
    exact j_iret B E rfl dX8_nameOf_97 (Nat.le_refl _) (Nat.le_refl _) ⟨rfl, rfl, rfl, rfl⟩
  replace h := h_neg c2 h
  by_cases c3 : x0 = 106
  · replace h := h_pos c3 h
    refine j_tableIn (off := 95) (tgt := 96) B dX8_nameOf_1 (by rw [c3]; decide) (by rw [c3]; decide) (by rw [c3]; decide) (by decide) ?_
    refine j_iconst B dX8_nameOf_96 (v := (-1)) (by decide) ?_
    have e1 := Option.some.inj h
    subst e1
    exact j_iret B E rfl dX8_nameOf_97 (Nat.le_refl _) (Nat.le_refl _) ⟨rfl, rfl, rfl, rfl⟩
  replace h := h_neg c3 h
  by_cases c4 : x0 = 107
  · replace h := h_pos c4 h
    refine j_tableIn (off := 91) (tgt := 92) B dX8_nameOf_1 (by rw [c4]; decide) (by rw [c4]; decide) (by rw [c4]; decide) (by decide) ?_
    refine j_iconst B dX8_nameOf_92 (v := 4) (by decide) ?_
    have e1 := Option.some.inj h
    subst e1
    exact j_iret B E rfl dX8_nameOf_93 (Nat.le_refl _) (Nat.le_refl _) ⟨rfl, rfl, rfl, rfl⟩
  replace h := h_neg c4 h
  by_cases c5 : x0 = 108
  · replace h := h_pos c5 h
    refine j_tableIn (off := 95) (tgt := 96) B dX8_nameOf_1 (by rw [c5]; decide) (by rw [c5]; decide) (by rw [c5]; decide) (by decide) ?_
    refine j_iconst B dX8_nameOf_96 (v := (-1)) (by decide) ?_
    have e1 := Option.some.inj h
    subst e1
    exact j_iret B E rfl dX8_nameOf_97 (Nat.le_refl _) (Nat.le_refl _) ⟨rfl, rfl, rfl, rfl⟩
  replace h := h_neg c5 h
  by_cases c6 : x0 = 109
  · replace h := h_pos c6 h
    refine j_tableIn (off := 95) (tgt := 96) B dX8_nameOf_1 (by rw [c6]; decide) (by rw [c6]; decide) (by rw [c6]; decide) (by decide) ?_
    refine j_iconst B dX8_nameOf_96 (v := (-1)) (by decide) ?_
    have e1 := Option.some.inj h
    subst e1
    exact j_iret B E rfl dX8_nameOf_97 (Nat.le_refl _) (Nat.le_refl _) ⟨rfl, rfl, rfl, rfl⟩
  replace h := h_neg c6 h
  by_cases c7 : x0 = 110
  · replace h := h_pos c7 h
    refine j_tableIn (off := 83) (tgt := 84) B dX8_nameOf_1 (by rw [c7]; decide) (by rw [c7]; decide) (by rw [c7]; decide) (by decide) ?_
    refine j_iconst B dX8_nameOf_84 (v := 0) (by decide) ?_
    have e1 := Option.some.inj h
    subst e1
    exact j_iret B E rfl dX8_nameOf_85 (Nat.le_refl _) (Nat.le_refl _) ⟨rfl, rfl, rfl, rfl⟩
  replace h := h_neg c7 h
  by_cases c8 : x0 = 111
  · replace h := h_pos c8 h
    refine j_tableIn (off := 95) (tgt := 96) B dX8_nameOf_1 (by rw [c8]; decide) (by rw [c8]; decide) (by rw [c8]; decide) (by decide) ?_
    refine j_iconst B dX8_nameOf_96 (v := (-1)) (by decide) ?_
    have e1 := Option.some.inj h
    subst e1
    exact j_iret B E rfl dX8_nameOf_97 (Nat.le_refl _) (Nat.le_refl _) ⟨rfl, rfl, rfl, rfl⟩
  replace h := h_neg c8 h
  by_cases c9 : x0 = 112
  · replace h := h_pos c9 h
    refine j_tableIn (off := 95) (tgt := 96) B dX8_nameOf_1 (by rw [c9]; decide) (by rw [c9]; decide) (by rw [c9]; decide) (by decide) ?_
    refine j_iconst B dX8_nameOf_96 (v := (-1)) (by decide) ?_
    have e1 := Option.some.inj h
    subst e1
    exact j_iret B E rfl dX8_nameOf_97 (Nat.le_refl _) (Nat.le_refl _) ⟨rfl, rfl, rfl, rfl⟩
  replace h := h_neg c9 h
  by_cases c10 : x0 = 113
  · replace h := h_pos c10 h
    refine j_tableIn (off := 95) (tgt := 96) B dX8_nameOf_1 (by rw [c10]; decide) (by rw [c10]; decide) (by rw [c10]; decide) (by decide) ?_
    refine j_iconst B dX8_nameOf_96 (v := (-1)) (by decide) ?_
    have e1 := Option.some.inj h
    subst e1
    exact j_iret B E rfl dX8_nameOf_97 (Nat.le_refl _) (Nat.le_refl _) ⟨rfl, rfl, rfl, rfl⟩
  replace h := h_neg c10 h
  by_cases c11 : x0 = 114
  · replace h := h_pos c11 h
    refine j_tableIn (off := 95) (tgt := 96) B dX8_nameOf_1 (by rw [c11]; decide) (by rw [c11]; decide) (by rw [c11]; decide) (by decide) ?_
    refine j_iconst B dX8_nameOf_96 (v := (-1)) (by decide) ?_
    have e1 := Option.some.inj h
    subst e1
    exact j_iret B E rfl dX8_nameOf_97 (Nat.le_refl _) (Nat.le_refl _) ⟨rfl, rfl, rfl, rfl⟩
  replace h := h_neg c11 h
  by_cases c12 : x0 = 115
  · replace h := h_pos c12 h
    refine j_tableIn (off := 89) (tgt := 90) B dX8_nameOf_1 (by rw [c12]; decide) (by rw [c12]; decide) (by rw [c12]; decide) (by decide) ?_
    refine j_iconst B dX8_nameOf_90 (v := 3) (by decide) ?_
    have e1 := Option.some.inj h
    subst e1
    exact j_iret B E rfl dX8_nameOf_91 (Nat.le_refl _) (Nat.le_refl _) ⟨rfl, rfl, rfl, rfl⟩
  replace h := h_neg c12 h
  by_cases c13 : x0 = 116
  · replace h := h_pos c13 h
    refine j_tableIn (off := 95) (tgt := 96) B dX8_nameOf_1 (by rw [c13]; decide) (by rw [c13]; decide) (by rw [c13]; decide) (by decide) ?_
    refine j_iconst B dX8_nameOf_96 (v := (-1)) (by decide) ?_
    have e1 := Option.some.inj h
    subst e1
    exact j_iret B E rfl dX8_nameOf_97 (Nat.le_refl _) (Nat.le_refl _) ⟨rfl, rfl, rfl, rfl⟩
  replace h := h_neg c13 h
  by_cases c14 : x0 = 117
  · replace h := h_pos c14 h
    refine j_tableIn (off := 95) (tgt := 96) B dX8_nameOf_1 (by rw [c14]; decide) (by rw [c14]; decide) (by rw [c14]; decide) (by decide) ?_
    refine j_iconst B dX8_nameOf_96 (v := (-1)) (by decide) ?_
    have e1 := Option.some.inj h
    subst e1
    exact j_iret B E rfl dX8_nameOf_97 (Nat.le_refl _) (Nat.le_refl _) ⟨rfl, rfl, rfl, rfl⟩
  replace h := h_neg c14 h
  by_cases c15 : x0 = 118
  · replace h := h_pos c15 h
    refine j_tableIn (off := 95) (tgt := 96) B dX8_nameOf_1 (by rw [c15]; decide) (by rw [c15]; decide) (by rw [c15]; decide) (by decide) ?_
    refine j_iconst B dX8_nameOf_96 (v := (-1)) (by decide) ?_
    have e1 := Option.some.inj h
    subst e1
    exact j_iret B E rfl dX8_nameOf_97 (Nat.le_refl _) (Nat.le_refl _) ⟨rfl, rfl, rfl, rfl⟩
  replace h := h_neg c15 h
  by_cases c16 : x0 = 119
  · replace h := h_pos c16 h
    refine j_tableIn (off := 93) (tgt := 94) B dX8_nameOf_1 (by rw [c16]; decide) (by rw [c16]; decide) (by rw [c16]; decide) (by decide) ?_
    refine j_iconst B dX8_nameOf_94 (v := 5) (by decide) ?_
    have e1 := Option.some.inj h
    subst e1
    exact j_iret B E rfl dX8_nameOf_95 (Nat.le_refl _) (Nat.le_refl _) ⟨rfl, rfl, rfl, rfl⟩
  replace h := h_neg c16 h
  refine j_tableOut (tgt := 96) B dX8_nameOf_1 (by have n0 := lv_neT c0 (a := 103) (by decide); have n1 := lv_neT c1 (a := 104) (by decide); have n2 := lv_neT c2 (a := 105) (by decide); have n3 := lv_neT c3 (a := 106) (by decide); have n4 := lv_neT c4 (a := 107) (by decide); have n5 := lv_neT c5 (a := 108) (by decide); have n6 := lv_neT c6 (a := 109) (by decide); have n7 := lv_neT c7 (a := 110) (by decide); have n8 := lv_neT c8 (a := 111) (by decide); have n9 := lv_neT c9 (a := 112) (by decide); have n10 := lv_neT c10 (a := 113) (by decide); have n11 := lv_neT c11 (a := 114) (by decide); have n12 := lv_neT c12 (a := 115) (by decide); have n13 := lv_neT c13 (a := 116) (by decide); have n14 := lv_neT c14 (a := 117) (by decide); have n15 := lv_neT c15 (a := 118) (by decide); have n16 := lv_neT c16 (a := 119) (by decide); omega) (by decide) ?_
  refine j_iconst B dX8_nameOf_96 (v := (-1)) (by decide) ?_
  have e1 := Option.some.inj h
  subst e1
  exact j_iret B E rfl dX8_nameOf_97 (Nat.le_refl _) (Nat.le_refl _) ⟨rfl, rfl, rfl, rfl⟩
def fX8_readNumber_82  (x1 : Int32) (vi : VI) : Option (VI) := (fX5_add 9 x1 vi).bind fun r1 => some (r1)
theorem tX8_readNumber_82 {G : GT} {sv : SV} {vl0 : VL} {ns : Nat} {Γ : CT} {vi' : VI} (B : Base G Γ mX8_readNumber 1 0 0) (E : Ends G Γ 0 0 (QV sv vi' vl0)) (hW : WF sv ns) (hI : sv.2.2.2 3 4 = 9 + 1) : ∀ (x1 : Int32) (vi : VI), fX8_readNumber_82  x1 vi = some (vi') → J G Γ 0 0 82 [(0, .ref (G.1 + 3)), (1, .int x1)] [] sv vi vl0 := by
  intro x1 vi  h
  unfold fX8_readNumber_82 at h
  refine j_aload_n B dX8_readNumber_82 rfl 0 rfl ?_
  refine gf_RX8_19 B rfl (wf_5 hW) hI dX8_readNumber_83 ?_
  refine j_iload_n B dX8_readNumber_86 rfl 1 rfl ?_
  obtain ⟨r1, hr1, h⟩ := h_bind h
  refine j_cVV (rest := []) B (tX5_add ((wf_law9 hW)) hr1) cls5 (wf_11 hW) jt_RX8_45 wi_X5_add ws_X5_add rfl (by decide) (Nat.le_refl _) (Nat.le_refl _) rfl (Nat.le_of_ble_eq_true rfl) dX8_readNumber_87 ?_
  have e1 := Option.some.inj h
  subst e1
  exact j_vret B E rfl dX8_readNumber_90 (Nat.le_refl _) (Nat.le_refl _) ⟨rfl, rfl, rfl, rfl⟩
def fX8_readNumber_4  : Nat → Int32 → Int32 → VI → Option (VI)
  | 0, _, _, _ => none
  | F + 1, x1, x2, vi => if 4 ≤ x2 then fX8_readNumber_82  x1 vi else if (vi 3 1) ≤ (vi 3 2) then fX8_readNumber_82  x1 vi else if inb (vi 3 2) 120 = true then if (vi 4 (vi 3 2).toNatClampNeg) < 48 then fX8_readNumber_82  x1 vi else if inb (vi 3 2) 120 = true then if 57 < (vi 4 (vi 3 2).toNatClampNeg) then fX8_readNumber_82  x1 vi else if inb (vi 3 2) 120 = true then fX8_readNumber_4  F (((x1 * 10) + (vi 4 (vi 3 2).toNatClampNeg)) - 48) (x2 + 1) (j_up vi 3 2 ((vi 3 2) + 1)) else none else none else none
theorem tX8_readNumber_4 {G : GT} {sv : SV} {vl0 : VL} {ns : Nat} {Γ : CT} {vi' : VI} (B : Base G Γ mX8_readNumber 1 0 0) (E : Ends G Γ 0 0 (QV sv vi' vl0)) (hW : WF sv ns) (hI : sv.2.2.2 3 4 = 9 + 1) : ∀ (F : Nat) (x1 : Int32) (x2 : Int32) (vi : VI), fX8_readNumber_4  F x1 x2 vi = some (vi') → J G Γ 0 0 4 [(0, .ref (G.1 + 3)), (1, .int x1), (2, .int x2)] [] sv vi vl0 := by
  intro F
  induction F with
  | zero =>
    intro x1 x2 vi  h
    cases (show (none : Option (VI)) = some (vi') from h)
  | succ F ih =>
    intro x1 x2 vi  h
    rw [fX8_readNumber_4] at h
    refine j_iload_n B dX8_readNumber_4 rfl 2 rfl ?_
    refine j_iconst B dX8_readNumber_5 (v := 4) (by decide) ?_
    refine j_icmp_ge (tgt := 82) B dX8_readNumber_6 (by decide) (fun c => ?_) (fun c => ?_)
    · replace h := h_pos c h
      refine j_locals [0, 1] rfl ?_
      exact tX8_readNumber_82 B E hW hI (x1) (vi)  h
    · replace h := h_neg c h
      refine j_aload_n B dX8_readNumber_9 rfl 0 rfl ?_
      refine gf_RX8_28 B rfl (wf_5 hW) dX8_readNumber_10 ?_
      refine j_aload_n B dX8_readNumber_13 rfl 0 rfl ?_
      refine gf_RX8_15 B rfl (wf_5 hW) dX8_readNumber_14 ?_
      refine j_icmp_ge (tgt := 82) B dX8_readNumber_17 (by decide) (fun c => ?_) (fun c => ?_)
      · replace h := h_pos c h
        refine j_locals [0, 1] rfl ?_
        exact tX8_readNumber_82 B E hW hI (x1) (vi)  h
      · replace h := h_neg c h
        refine j_aload_n B dX8_readNumber_20 rfl 0 rfl ?_
        refine gf_RX8_9 B rfl (wf_5 hW) (wf_103 hW) dX8_readNumber_21 ?_
        refine j_aload_n B dX8_readNumber_24 rfl 0 rfl ?_
        refine gf_RX8_28 B rfl (wf_5 hW) dX8_readNumber_25 ?_
        obtain ⟨b2, h⟩ := h_inb h
        refine j_iald B ((wf_6 hW)) b2 dX8_readNumber_28 ?_
        refine j_bipush B dX8_readNumber_29 (v := 48) (by decide) ?_
        refine j_icmp_lt (tgt := 82) B dX8_readNumber_31 (by decide) (fun c => ?_) (fun c => ?_)
        · replace h := h_pos c h
          refine j_locals [0, 1] rfl ?_
          exact tX8_readNumber_82 B E hW hI (x1) (vi)  h
        · replace h := h_neg c h
          refine j_aload_n B dX8_readNumber_34 rfl 0 rfl ?_
          refine gf_RX8_9 B rfl (wf_5 hW) (wf_103 hW) dX8_readNumber_35 ?_
          refine j_aload_n B dX8_readNumber_38 rfl 0 rfl ?_
          refine gf_RX8_28 B rfl (wf_5 hW) dX8_readNumber_39 ?_
          obtain ⟨b3, h⟩ := h_inb h
          refine j_iald B ((wf_6 hW)) b3 dX8_readNumber_42 ?_
          refine j_bipush B dX8_readNumber_43 (v := 57) (by decide) ?_
          refine j_icmp_gt (tgt := 82) B dX8_readNumber_45 (by decide) (fun c => ?_) (fun c => ?_)
          · replace h := h_pos c h
            refine j_locals [0, 1] rfl ?_
            exact tX8_readNumber_82 B E hW hI (x1) (vi)  h
          · replace h := h_neg c h
            refine j_iload_n B dX8_readNumber_48 rfl 1 rfl ?_
            refine j_bipush B dX8_readNumber_49 (v := 10) (by decide) ?_
            refine j_imul B dX8_readNumber_51 ?_
            refine j_aload_n B dX8_readNumber_52 rfl 0 rfl ?_
            refine gf_RX8_9 B rfl (wf_5 hW) (wf_103 hW) dX8_readNumber_53 ?_
            refine j_aload_n B dX8_readNumber_56 rfl 0 rfl ?_
            refine gf_RX8_28 B rfl (wf_5 hW) dX8_readNumber_57 ?_
            obtain ⟨b4, h⟩ := h_inb h
            refine j_iald B ((wf_6 hW)) b4 dX8_readNumber_60 ?_
            refine j_iadd B dX8_readNumber_61 ?_
            refine j_bipush B dX8_readNumber_62 (v := 48) (by decide) ?_
            refine j_isub B dX8_readNumber_64 ?_
            refine j_istore_n (L' := [(1, .int (((x1 * 10) + (vi 4 (vi 3 2).toNatClampNeg)) - 48)), (0, .ref (G.1 + 3)), (2, .int x2)]) B dX8_readNumber_65 rfl (by decide) rfl ?_
            refine j_aload_n B dX8_readNumber_66 rfl 1 rfl ?_
            refine j_dup B dX8_readNumber_67 rfl ?_
            refine gf_RX8_28 B rfl (wf_5 hW) dX8_readNumber_68 ?_
            refine j_iconst B dX8_readNumber_71 (v := 1) (by decide) ?_
            refine j_iadd B dX8_readNumber_72 ?_
            refine pf_RX8_28 B rfl (wf_5 hW) dX8_readNumber_73 ?_
            refine j_iinc (v := (x2 + 1)) (L' := [(2, .int (x2 + 1)), (1, .int (((x1 * 10) + (vi 4 (vi 3 2).toNatClampNeg)) - 48)), (0, .ref (G.1 + 3))]) B dX8_readNumber_76 2 rfl rfl (by decide) rfl ?_
            refine j_goto (tgt := 4) B dX8_readNumber_79 (by decide) ?_
            refine j_locals [2, 1, 0] rfl ?_
            exact ih ((((x1 * 10) + (vi 4 (vi 3 2).toNatClampNeg)) - 48)) ((x2 + 1)) ((j_up vi 3 2 ((vi 3 2) + 1)))  h
def fX8_readNumber  (vi0 : VI) : Option (VI) := fX8_readNumber_4  FU 0 0 vi0
theorem tX8_readNumber {G : GT} {sv : SV} {vi0 : VI} {vl0 : VL} {ns : Nat} {vi' : VI} (hW : WF sv ns) (hI : sv.2.2.2 3 4 = 9 + 1) (h : fX8_readNumber vi0 = some (vi')) : Call G mX8_readNumber 1 0 0 [.ref (G.1 + 3)] sv vi0 vl0 (QV sv vi' vl0) := by
  refine j_mk (by decide +kernel) (Nat.le_of_ble_eq_true rfl) (fun Γ B E => ?_)
  show J G Γ 0 0 0 [(0, .ref (G.1 + 3))] [] sv vi0 vl0
  unfold fX8_readNumber at h
  refine j_iconst B dX8_readNumber_0 (v := 0) (by decide) ?_
  refine j_istore_n (L' := [(1, .int 0), (0, .ref (G.1 + 3))]) B dX8_readNumber_1 rfl (by decide) rfl ?_
  refine j_iconst B dX8_readNumber_2 (v := 0) (by decide) ?_
  refine j_istore_n (L' := [(2, .int 0), (1, .int 0), (0, .ref (G.1 + 3))]) B dX8_readNumber_3 rfl (by decide) rfl ?_
  refine j_locals [2, 1, 0] rfl ?_
  exact tX8_readNumber_4 B E hW hI FU (0) (0) (vi0)  h
def fX8_passes (x1 : Int32) (vi0 : VI) : Option (Bool × VI) := if (vi0 3 3) = (-1) then if (vi0 3 1) ≤ (vi0 3 2) then some (false, vi0) else if inb (vi0 3 2) 120 = true then if (vi0 4 (vi0 3 2).toNatClampNeg) = x1 then some (true, (j_up vi0 3 2 ((vi0 3 2) + 1))) else some (false, vi0) else none else some (false, vi0)
theorem tX8_passes {G : GT} {sv : SV} {vi0 : VI} {vl0 : VL} {ns : Nat} {x1 : Int32} {r : Bool} {vi' : VI} (hW : WF sv ns) (h : fX8_passes x1 vi0 = some (r, vi')) : Call G mX8_passes 0 0 0 [.ref (G.1 + 3), .int x1] sv vi0 vl0 (QI (b2i r) sv vi' vl0) := by
  refine j_mk (by decide +kernel) (Nat.le_of_ble_eq_true rfl) (fun Γ B E => ?_)
  show J G Γ 0 0 0 [(0, .ref (G.1 + 3)), (1, .int x1)] [] sv vi0 vl0
  unfold fX8_passes at h
  refine j_aload_n B dX8_passes_0 rfl 0 rfl ?_
  refine gf_RX8_31 B rfl (wf_5 hW) dX8_passes_1 ?_
  refine j_iconst B dX8_passes_4 (v := (-1)) (by decide) ?_
  refine j_icmp_ne (tgt := 32) B dX8_passes_5 (by decide) (fun c => ?_) (fun c => ?_)
  · replace h := h_neg c h
    refine j_iconst B dX8_passes_32 (v := 0) (by decide) ?_
    obtain ⟨e1, e2⟩ := Prod.mk.inj (Option.some.inj h)
    subst e1
    subst e2
    exact j_zret B E rfl (Or.inl rfl) dX8_passes_33 (Nat.le_refl _) (Nat.le_refl _) ⟨rfl, rfl, rfl, rfl⟩
  · replace h := h_pos c h
    refine j_aload_n B dX8_passes_8 rfl 0 rfl ?_
    refine gf_RX8_28 B rfl (wf_5 hW) dX8_passes_9 ?_
    refine j_aload_n B dX8_passes_12 rfl 0 rfl ?_
    refine gf_RX8_15 B rfl (wf_5 hW) dX8_passes_13 ?_
    refine j_icmp_ge (tgt := 32) B dX8_passes_16 (by decide) (fun c => ?_) (fun c => ?_)
    · replace h := h_pos c h
      refine j_iconst B dX8_passes_32 (v := 0) (by decide) ?_
      obtain ⟨e1, e2⟩ := Prod.mk.inj (Option.some.inj h)
      subst e1
      subst e2
      exact j_zret B E rfl (Or.inl rfl) dX8_passes_33 (Nat.le_refl _) (Nat.le_refl _) ⟨rfl, rfl, rfl, rfl⟩
    · replace h := h_neg c h
      refine j_aload_n B dX8_passes_19 rfl 0 rfl ?_
      refine gf_RX8_9 B rfl (wf_5 hW) (wf_103 hW) dX8_passes_20 ?_
      refine j_aload_n B dX8_passes_23 rfl 0 rfl ?_
      refine gf_RX8_28 B rfl (wf_5 hW) dX8_passes_24 ?_
      obtain ⟨b1, h⟩ := h_inb h
      refine j_iald B ((wf_6 hW)) b1 dX8_passes_27 ?_
      refine j_iload_n B dX8_passes_28 rfl 1 rfl ?_
      refine j_icmp_eq (tgt := 34) B dX8_passes_29 (by decide) (fun c => ?_) (fun c => ?_)
      · replace h := h_pos c h
        refine j_aload_n B dX8_passes_34 rfl 0 rfl ?_
        refine j_dup B dX8_passes_35 rfl ?_
        refine gf_RX8_28 B rfl (wf_5 hW) dX8_passes_36 ?_
        refine j_iconst B dX8_passes_39 (v := 1) (by decide) ?_
        refine j_iadd B dX8_passes_40 ?_
        refine pf_RX8_28 B rfl (wf_5 hW) dX8_passes_41 ?_
        refine j_iconst B dX8_passes_44 (v := 1) (by decide) ?_
        obtain ⟨e1, e2⟩ := Prod.mk.inj (Option.some.inj h)
        subst e1
        subst e2
        exact j_zret B E rfl (Or.inr rfl) dX8_passes_45 (Nat.le_refl _) (Nat.le_refl _) ⟨rfl, rfl, rfl, rfl⟩
      · replace h := h_neg c h
        refine j_iconst B dX8_passes_32 (v := 0) (by decide) ?_
        obtain ⟨e1, e2⟩ := Prod.mk.inj (Option.some.inj h)
        subst e1
        subst e2
        exact j_zret B E rfl (Or.inl rfl) dX8_passes_33 (Nat.le_refl _) (Nat.le_refl _) ⟨rfl, rfl, rfl, rfl⟩
def fX8_readPart_21 (rec : Nat → Int32 → Int32 → VI → Option VI) : Nat → Int32 → Int32 → Int32 → Int32 → VI → Option (VI)
  | 0, _, _, _, _, _ => none
  | F + 1, x1, x2, x3, x4, vi => if x3 ≤ x4 then some (vi) else if (vi 3 3) = (-1) then (fX8_partOfSign vi).bind fun r2 => if r2 = x1 then if inb (vi 3 2) 120 = true then (rec 3 x1 x2 (j_up vi 3 2 ((vi 3 2) + 1))).bind fun r4 => (fX5_add 9 (20000 + (vi 4 (vi 3 2).toNatClampNeg)) r4).bind fun r5 => fX8_readPart_21 rec F x1 x2 x3 (x4 + 1) r5 else none else some (vi) else some (vi)
theorem tX8_readPart_21 {G : GT} {sv : SV} {vl0 : VL} {ns : Nat} {D : Nat} {rec : Nat → Int32 → Int32 → VI → Option VI} {Γ : CT} {vi' : VI} (B : Base G Γ mX8_readPart (D + 1) 0 0) (E : Ends G Γ 0 0 (QV sv vi' vl0)) (hW : WF sv ns) (hI : sv.2.2.2 3 4 = 9 + 1) (hR : (∀ {a0 a1 : Int32} {vi vi' : VI}, rec 0 a0 a1 vi = some vi' → Call G mX8_readPart D 0 0 [.ref (G.1 + 3), .int a0, .int a1] sv vi vl0 (QV sv vi' vl0)) ∧ (∀ {a0 : Int32} {vi vi' : VI}, rec 1 a0 0 vi = some vi' → Call G mX8_readOperand D 0 0 [.ref (G.1 + 3), .int a0] sv vi vl0 (QV sv vi' vl0)) ∧ (∀ {a0 a1 : Int32} {vi vi' : VI}, rec 2 a0 a1 vi = some vi' → Call G mX8_readOpened D 0 0 [.ref (G.1 + 3), .int a0, .int a1] sv vi vl0 (QV sv vi' vl0)) ∧ (∀ {a0 a1 : Int32} {vi vi' : VI}, rec 3 a0 a1 vi = some vi' → Call G mX8_readTighter D 0 0 [.ref (G.1 + 3), .int a0, .int a1] sv vi vl0 (QV sv vi' vl0))) (hD : 2 ≤ D) : ∀ (F : Nat) (x1 : Int32) (x2 : Int32) (x3 : Int32) (x4 : Int32) (vi : VI), fX8_readPart_21 rec F x1 x2 x3 x4 vi = some (vi') → J G Γ 0 0 21 [(0, .ref (G.1 + 3)), (1, .int x1), (2, .int x2), (3, .int x3), (4, .int x4)] [] sv vi vl0 := by
  intro F
  induction F with
  | zero =>
    intro x1 x2 x3 x4 vi  h
    cases (show (none : Option (VI)) = some (vi') from h)
  | succ F ih =>
    intro x1 x2 x3 x4 vi  h
    rw [fX8_readPart_21] at h
    refine j_iload B dX8_readPart_21 4 rfl ?_
    refine j_iload_n B dX8_readPart_23 rfl 3 rfl ?_
    refine j_icmp_ge (tgt := 89) B dX8_readPart_24 (by decide) (fun c => ?_) (fun c => ?_)
    · replace h := h_pos c h
      have e1 := Option.some.inj h
      subst e1
      exact j_vret B E rfl dX8_readPart_89 (Nat.le_refl _) (Nat.le_refl _) ⟨rfl, rfl, rfl, rfl⟩
    · replace h := h_neg c h
      refine j_aload_n B dX8_readPart_27 rfl 0 rfl ?_
      refine gf_RX8_31 B rfl (wf_5 hW) dX8_readPart_28 ?_
      refine j_iconst B dX8_readPart_31 (v := (-1)) (by decide) ?_
      refine j_icmp_ne (tgt := 89) B dX8_readPart_32 (by decide) (fun c => ?_) (fun c => ?_)
      · replace h := h_neg c h
        have e1 := Option.some.inj h
        subst e1
        exact j_vret B E rfl dX8_readPart_89 (Nat.le_refl _) (Nat.le_refl _) ⟨rfl, rfl, rfl, rfl⟩
      · replace h := h_pos c h
        refine j_aload_n B dX8_readPart_35 rfl 0 rfl ?_
        obtain ⟨r2, hr2, h⟩ := h_bind h
        refine j_cVI (rest := []) B (tX8_partOfSign hW hr2) cls8 (wf_5 hW) jt_RX8_52 wi_X8_partOfSign ws_X8_partOfSign rfl (by omega) (Nat.le_refl _) (Nat.le_refl _) rfl (Nat.le_of_ble_eq_true rfl) dX8_readPart_36 ?_
        refine j_iload_n B dX8_readPart_39 rfl 1 rfl ?_
        refine j_icmp_ne (tgt := 89) B dX8_readPart_40 (by decide) (fun c => ?_) (fun c => ?_)
        · replace h := h_neg c h
          have e1 := Option.some.inj h
          subst e1
          exact j_vret B E rfl dX8_readPart_89 (Nat.le_refl _) (Nat.le_refl _) ⟨rfl, rfl, rfl, rfl⟩
        · replace h := h_pos c h
          refine j_aload_n B dX8_readPart_43 rfl 0 rfl ?_
          refine gf_RX8_9 B rfl (wf_5 hW) (wf_103 hW) dX8_readPart_44 ?_
          refine j_aload_n B dX8_readPart_47 rfl 0 rfl ?_
          refine gf_RX8_28 B rfl (wf_5 hW) dX8_readPart_48 ?_
          obtain ⟨b3, h⟩ := h_inb h
          refine j_iald B ((wf_6 hW)) b3 dX8_readPart_51 ?_
          refine j_istore (L' := [(5, .int (vi 4 (vi 3 2).toNatClampNeg)), (0, .ref (G.1 + 3)), (1, .int x1), (2, .int x2), (3, .int x3), (4, .int x4)]) B dX8_readPart_52 (by decide) rfl ?_
          refine j_aload_n B dX8_readPart_54 rfl 1 rfl ?_
          refine j_dup B dX8_readPart_55 rfl ?_
          refine gf_RX8_28 B rfl (wf_5 hW) dX8_readPart_56 ?_
          refine j_iconst B dX8_readPart_59 (v := 1) (by decide) ?_
          refine j_iadd B dX8_readPart_60 ?_
          refine pf_RX8_28 B rfl (wf_5 hW) dX8_readPart_61 ?_
          refine j_aload_n B dX8_readPart_64 rfl 1 rfl ?_
          refine j_iload_n B dX8_readPart_65 rfl 2 rfl ?_
          refine j_iload_n B dX8_readPart_66 rfl 3 rfl ?_
          obtain ⟨r4, hr4, h⟩ := h_bind h
          refine j_cVV (rest := []) B (hR.2.2.2  hr4) cls8 (wf_5 hW) jt_RX8_49 wi_X8_readTighter ws_X8_readTighter rfl (by omega) (Nat.le_refl _) (Nat.le_refl _) rfl (Nat.le_of_ble_eq_true rfl) dX8_readPart_67 ?_
          refine j_aload_n B dX8_readPart_70 rfl 1 rfl ?_
          refine gf_RX8_19 B rfl (wf_5 hW) hI dX8_readPart_71 ?_
          refine j_sipush B dX8_readPart_74 (v := 20000) (by decide) ?_
          refine j_iload B dX8_readPart_77 0 rfl ?_
          refine j_iadd B dX8_readPart_79 ?_
          obtain ⟨r5, hr5, h⟩ := h_bind h
          refine j_cVV (rest := []) B (tX5_add ((wf_law9 hW)) hr5) cls5 (wf_11 hW) jt_RX8_45 wi_X5_add ws_X5_add rfl (by omega) (Nat.le_refl _) (Nat.le_refl _) rfl (Nat.le_of_ble_eq_true rfl) dX8_readPart_80 ?_
          refine j_iinc (v := (x4 + 1)) (L' := [(4, .int (x4 + 1)), (5, .int (vi 4 (vi 3 2).toNatClampNeg)), (0, .ref (G.1 + 3)), (1, .int x1), (2, .int x2), (3, .int x3)]) B dX8_readPart_83 5 rfl rfl (by decide) rfl ?_
          refine j_goto (tgt := 21) B dX8_readPart_86 (by decide) ?_
          refine j_locals [2, 3, 4, 5, 0] rfl ?_
          exact ih (x1) (x2) (x3) ((x4 + 1)) (r5)  h
def fX8_readPart_17 (rec : Nat → Int32 → Int32 → VI → Option VI) (x1 : Int32) (x2 : Int32) (s0 : Int32) (vi : VI) : Option (VI) := fX8_readPart_21 rec FU x1 x2 s0 0 vi
theorem tX8_readPart_17 {G : GT} {sv : SV} {vl0 : VL} {ns : Nat} {D : Nat} {rec : Nat → Int32 → Int32 → VI → Option VI} {Γ : CT} {vi' : VI} (B : Base G Γ mX8_readPart (D + 1) 0 0) (E : Ends G Γ 0 0 (QV sv vi' vl0)) (hW : WF sv ns) (hI : sv.2.2.2 3 4 = 9 + 1) (hR : (∀ {a0 a1 : Int32} {vi vi' : VI}, rec 0 a0 a1 vi = some vi' → Call G mX8_readPart D 0 0 [.ref (G.1 + 3), .int a0, .int a1] sv vi vl0 (QV sv vi' vl0)) ∧ (∀ {a0 : Int32} {vi vi' : VI}, rec 1 a0 0 vi = some vi' → Call G mX8_readOperand D 0 0 [.ref (G.1 + 3), .int a0] sv vi vl0 (QV sv vi' vl0)) ∧ (∀ {a0 a1 : Int32} {vi vi' : VI}, rec 2 a0 a1 vi = some vi' → Call G mX8_readOpened D 0 0 [.ref (G.1 + 3), .int a0, .int a1] sv vi vl0 (QV sv vi' vl0)) ∧ (∀ {a0 a1 : Int32} {vi vi' : VI}, rec 3 a0 a1 vi = some vi' → Call G mX8_readTighter D 0 0 [.ref (G.1 + 3), .int a0, .int a1] sv vi vl0 (QV sv vi' vl0))) (hD : 2 ≤ D) : ∀ (x1 : Int32) (x2 : Int32) (s0 : Int32) (vi : VI), fX8_readPart_17 rec x1 x2 s0 vi = some (vi') → J G Γ 0 0 17 [(0, .ref (G.1 + 3)), (1, .int x1), (2, .int x2)] [.int s0] sv vi vl0 := by
  intro x1 x2 s0 vi  h
  unfold fX8_readPart_17 at h
  refine j_istore_n (L' := [(3, .int s0), (0, .ref (G.1 + 3)), (1, .int x1), (2, .int x2)]) B dX8_readPart_17 rfl (by decide) rfl ?_
  refine j_iconst B dX8_readPart_18 (v := 0) (by decide) ?_
  refine j_istore (L' := [(4, .int 0), (3, .int s0), (0, .ref (G.1 + 3)), (1, .int x1), (2, .int x2)]) B dX8_readPart_19 (by decide) rfl ?_
  refine j_locals [2, 3, 4, 1, 0] rfl ?_
  exact tX8_readPart_21 B E hW hI hR hD FU (x1) (x2) (s0) (0) (vi)  h
def fX8_readPart (rec : Nat → Int32 → Int32 → VI → Option VI) (x1 : Int32) (x2 : Int32) (vi0 : VI) : Option (VI) := (rec 3 x1 x2 vi0).bind fun r1 => if x1 = 2 then fX8_readPart_17 rec x1 x2 1 r1 else fX8_readPart_17 rec x1 x2 120 r1
theorem tX8_readPart {G : GT} {sv : SV} {vi0 : VI} {vl0 : VL} {ns : Nat} {D : Nat} {rec : Nat → Int32 → Int32 → VI → Option VI} {x1 : Int32} {x2 : Int32} {vi' : VI} (hW : WF sv ns) (hI : sv.2.2.2 3 4 = 9 + 1) (hR : (∀ {a0 a1 : Int32} {vi vi' : VI}, rec 0 a0 a1 vi = some vi' → Call G mX8_readPart D 0 0 [.ref (G.1 + 3), .int a0, .int a1] sv vi vl0 (QV sv vi' vl0)) ∧ (∀ {a0 : Int32} {vi vi' : VI}, rec 1 a0 0 vi = some vi' → Call G mX8_readOperand D 0 0 [.ref (G.1 + 3), .int a0] sv vi vl0 (QV sv vi' vl0)) ∧ (∀ {a0 a1 : Int32} {vi vi' : VI}, rec 2 a0 a1 vi = some vi' → Call G mX8_readOpened D 0 0 [.ref (G.1 + 3), .int a0, .int a1] sv vi vl0 (QV sv vi' vl0)) ∧ (∀ {a0 a1 : Int32} {vi vi' : VI}, rec 3 a0 a1 vi = some vi' → Call G mX8_readTighter D 0 0 [.ref (G.1 + 3), .int a0, .int a1] sv vi vl0 (QV sv vi' vl0))) (hD : 2 ≤ D) (h : fX8_readPart rec x1 x2 vi0 = some (vi')) : Call G mX8_readPart (D + 1) 0 0 [.ref (G.1 + 3), .int x1, .int x2] sv vi0 vl0 (QV sv vi' vl0) := by
  refine j_mk (by decide +kernel) (Nat.le_of_ble_eq_true rfl) (fun Γ B E => ?_)
  show J G Γ 0 0 0 [(0, .ref (G.1 + 3)), (1, .int x1), (2, .int x2)] [] sv vi0 vl0
  unfold fX8_readPart at h
  refine j_aload_n B dX8_readPart_0 rfl 0 rfl ?_
  refine j_iload_n B dX8_readPart_1 rfl 1 rfl ?_
  refine j_iload_n B dX8_readPart_2 rfl 2 rfl ?_
  obtain ⟨r1, hr1, h⟩ := h_bind h
  refine j_cVV (rest := []) B (hR.2.2.2  hr1) cls8 (wf_5 hW) jt_RX8_49 wi_X8_readTighter ws_X8_readTighter rfl (by omega) (Nat.le_refl _) (Nat.le_refl _) rfl (Nat.le_of_ble_eq_true rfl) dX8_readPart_3 ?_
  refine j_iload_n B dX8_readPart_6 rfl 1 rfl ?_
  refine j_iconst B dX8_readPart_7 (v := 2) (by decide) ?_
  refine j_icmp_ne (tgt := 15) B dX8_readPart_8 (by decide) (fun c => ?_) (fun c => ?_)
  · replace h := h_neg c h
    refine j_bipush B dX8_readPart_15 (v := 120) (by decide) ?_
    refine j_locals [0, 1, 2] rfl ?_
    exact tX8_readPart_17 B E hW hI hR hD (x1) (x2) (120) (r1)  h
  · replace h := h_pos c h
    refine j_iconst B dX8_readPart_11 (v := 1) (by decide) ?_
    refine j_goto (tgt := 17) B dX8_readPart_12 (by decide) ?_
    refine j_locals [0, 1, 2] rfl ?_
    exact tX8_readPart_17 B E hW hI hR hD (x1) (x2) (1) (r1)  h
def fX8_readOperand_133 (rec : Nat → Int32 → Int32 → VI → Option VI) (vi : VI) : Option (VI) := some ((j_up vi 3 3 (vi 3 2)))
theorem tX8_readOperand_133 {G : GT} {sv : SV} {vl0 : VL} {ns : Nat} {D : Nat} {rec : Nat → Int32 → Int32 → VI → Option VI} {Γ : CT} {vi' : VI} (B : Base G Γ mX8_readOperand (D + 1) 0 0) (E : Ends G Γ 0 0 (QV sv vi' vl0)) (hW : WF sv ns) (hI : sv.2.2.2 3 4 = 9 + 1) (hR : (∀ {a0 a1 : Int32} {vi vi' : VI}, rec 0 a0 a1 vi = some vi' → Call G mX8_readPart D 0 0 [.ref (G.1 + 3), .int a0, .int a1] sv vi vl0 (QV sv vi' vl0)) ∧ (∀ {a0 : Int32} {vi vi' : VI}, rec 1 a0 0 vi = some vi' → Call G mX8_readOperand D 0 0 [.ref (G.1 + 3), .int a0] sv vi vl0 (QV sv vi' vl0)) ∧ (∀ {a0 a1 : Int32} {vi vi' : VI}, rec 2 a0 a1 vi = some vi' → Call G mX8_readOpened D 0 0 [.ref (G.1 + 3), .int a0, .int a1] sv vi vl0 (QV sv vi' vl0)) ∧ (∀ {a0 a1 : Int32} {vi vi' : VI}, rec 3 a0 a1 vi = some vi' → Call G mX8_readTighter D 0 0 [.ref (G.1 + 3), .int a0, .int a1] sv vi vl0 (QV sv vi' vl0))) (hD : 2 ≤ D) : ∀ (vi : VI), fX8_readOperand_133 rec vi = some (vi') → J G Γ 0 0 133 [(0, .ref (G.1 + 3))] [] sv vi vl0 := by
  intro vi  h
  unfold fX8_readOperand_133 at h
  refine j_aload_n B dX8_readOperand_133 rfl 0 rfl ?_
  refine j_aload_n B dX8_readOperand_134 rfl 0 rfl ?_
  refine gf_RX8_28 B rfl (wf_5 hW) dX8_readOperand_135 ?_
  refine pf_RX8_31 B rfl (wf_5 hW) dX8_readOperand_138 ?_
  have e1 := Option.some.inj h
  subst e1
  exact j_vret B E rfl dX8_readOperand_141 (Nat.le_refl _) (Nat.le_refl _) ⟨rfl, rfl, rfl, rfl⟩
def fX8_readOperand_112 (rec : Nat → Int32 → Int32 → VI → Option VI) (x1 : Int32) (x2 : Int32) (vi : VI) : Option (VI) := (rec 2 x2 (x1 + 1) (j_up vi 3 2 ((vi 3 2) + 1))).bind fun r2 => some (r2)
theorem tX8_readOperand_112 {G : GT} {sv : SV} {vl0 : VL} {ns : Nat} {D : Nat} {rec : Nat → Int32 → Int32 → VI → Option VI} {Γ : CT} {vi' : VI} (B : Base G Γ mX8_readOperand (D + 1) 0 0) (E : Ends G Γ 0 0 (QV sv vi' vl0)) (hW : WF sv ns) (hI : sv.2.2.2 3 4 = 9 + 1) (hR : (∀ {a0 a1 : Int32} {vi vi' : VI}, rec 0 a0 a1 vi = some vi' → Call G mX8_readPart D 0 0 [.ref (G.1 + 3), .int a0, .int a1] sv vi vl0 (QV sv vi' vl0)) ∧ (∀ {a0 : Int32} {vi vi' : VI}, rec 1 a0 0 vi = some vi' → Call G mX8_readOperand D 0 0 [.ref (G.1 + 3), .int a0] sv vi vl0 (QV sv vi' vl0)) ∧ (∀ {a0 a1 : Int32} {vi vi' : VI}, rec 2 a0 a1 vi = some vi' → Call G mX8_readOpened D 0 0 [.ref (G.1 + 3), .int a0, .int a1] sv vi vl0 (QV sv vi' vl0)) ∧ (∀ {a0 a1 : Int32} {vi vi' : VI}, rec 3 a0 a1 vi = some vi' → Call G mX8_readTighter D 0 0 [.ref (G.1 + 3), .int a0, .int a1] sv vi vl0 (QV sv vi' vl0))) (hD : 2 ≤ D) : ∀ (x1 : Int32) (x2 : Int32) (vi : VI), fX8_readOperand_112 rec x1 x2 vi = some (vi') → J G Γ 0 0 112 [(0, .ref (G.1 + 3)), (1, .int x1), (2, .int x2)] [] sv vi vl0 := by
  intro x1 x2 vi  h
  unfold fX8_readOperand_112 at h
  refine j_aload_n B dX8_readOperand_112 rfl 0 rfl ?_
  refine j_dup B dX8_readOperand_113 rfl ?_
  refine gf_RX8_28 B rfl (wf_5 hW) dX8_readOperand_114 ?_
  refine j_iconst B dX8_readOperand_117 (v := 1) (by decide) ?_
  refine j_iadd B dX8_readOperand_118 ?_
  refine pf_RX8_28 B rfl (wf_5 hW) dX8_readOperand_119 ?_
  refine j_aload_n B dX8_readOperand_122 rfl 0 rfl ?_
  refine j_iload_n B dX8_readOperand_123 rfl 2 rfl ?_
  refine j_iload_n B dX8_readOperand_124 rfl 1 rfl ?_
  refine j_iconst B dX8_readOperand_125 (v := 1) (by decide) ?_
  refine j_iadd B dX8_readOperand_126 ?_
  obtain ⟨r2, hr2, h⟩ := h_bind h
  refine j_cVV (rest := []) B (hR.2.2.1  hr2) cls8 (wf_5 hW) jt_RX8_66 wi_X8_readOpened ws_X8_readOpened rfl (by omega) (Nat.le_refl _) (Nat.le_refl _) rfl (Nat.le_of_ble_eq_true rfl) dX8_readOperand_127 ?_
  refine j_goto (tgt := 141) B dX8_readOperand_130 (by decide) ?_
  have e1 := Option.some.inj h
  subst e1
  exact j_vret B E rfl dX8_readOperand_141 (Nat.le_refl _) (Nat.le_refl _) ⟨rfl, rfl, rfl, rfl⟩
def fX8_readOperand_58 (rec : Nat → Int32 → Int32 → VI → Option VI) (x1 : Int32) (x2 : Int32) (x3 : Int32) (vi : VI) : Option (VI) := if x3 = (-1) then if 6 ≤ x1 then fX8_readOperand_133 rec vi else if x2 = 40 then fX8_readOperand_112 rec x1 x2 vi else if x2 = 33 then fX8_readOperand_112 rec x1 x2 vi else if x2 = 45 then fX8_readOperand_112 rec x1 x2 vi else fX8_readOperand_133 rec vi else (fX5_add 9 (10000 + x3) (j_up vi 3 2 ((vi 3 2) + 1))).bind fun r3 => some (r3)
theorem tX8_readOperand_58 {G : GT} {sv : SV} {vl0 : VL} {ns : Nat} {D : Nat} {rec : Nat → Int32 → Int32 → VI → Option VI} {Γ : CT} {vi' : VI} (B : Base G Γ mX8_readOperand (D + 1) 0 0) (E : Ends G Γ 0 0 (QV sv vi' vl0)) (hW : WF sv ns) (hI : sv.2.2.2 3 4 = 9 + 1) (hR : (∀ {a0 a1 : Int32} {vi vi' : VI}, rec 0 a0 a1 vi = some vi' → Call G mX8_readPart D 0 0 [.ref (G.1 + 3), .int a0, .int a1] sv vi vl0 (QV sv vi' vl0)) ∧ (∀ {a0 : Int32} {vi vi' : VI}, rec 1 a0 0 vi = some vi' → Call G mX8_readOperand D 0 0 [.ref (G.1 + 3), .int a0] sv vi vl0 (QV sv vi' vl0)) ∧ (∀ {a0 a1 : Int32} {vi vi' : VI}, rec 2 a0 a1 vi = some vi' → Call G mX8_readOpened D 0 0 [.ref (G.1 + 3), .int a0, .int a1] sv vi vl0 (QV sv vi' vl0)) ∧ (∀ {a0 a1 : Int32} {vi vi' : VI}, rec 3 a0 a1 vi = some vi' → Call G mX8_readTighter D 0 0 [.ref (G.1 + 3), .int a0, .int a1] sv vi vl0 (QV sv vi' vl0))) (hD : 2 ≤ D) : ∀ (x1 : Int32) (x2 : Int32) (x3 : Int32) (vi : VI), fX8_readOperand_58 rec x1 x2 x3 vi = some (vi') → J G Γ 0 0 58 [(0, .ref (G.1 + 3)), (1, .int x1), (2, .int x2), (3, .int x3)] [] sv vi vl0 := by
  intro x1 x2 x3 vi  h
  unfold fX8_readOperand_58 at h
  refine j_iload_n B dX8_readOperand_58 rfl 3 rfl ?_
  refine j_iconst B dX8_readOperand_59 (v := (-1)) (by decide) ?_
  refine j_icmp_eq (tgt := 88) B dX8_readOperand_60 (by decide) (fun c => ?_) (fun c => ?_)
  · replace h := h_pos c h
    refine j_iload_n B dX8_readOperand_88 rfl 1 rfl ?_
    refine j_bipush B dX8_readOperand_89 (v := 6) (by decide) ?_
    refine j_icmp_ge (tgt := 133) B dX8_readOperand_91 (by decide) (fun c => ?_) (fun c => ?_)
    · replace h := h_pos c h
      refine j_locals [0] rfl ?_
      exact tX8_readOperand_133 B E hW hI hR hD (vi)  h
    · replace h := h_neg c h
      refine j_iload_n B dX8_readOperand_94 rfl 2 rfl ?_
      refine j_bipush B dX8_readOperand_95 (v := 40) (by decide) ?_
      refine j_icmp_eq (tgt := 112) B dX8_readOperand_97 (by decide) (fun c => ?_) (fun c => ?_)
      · replace h := h_pos c h
        refine j_locals [0, 1, 2] rfl ?_
        exact tX8_readOperand_112 B E hW hI hR hD (x1) (x2) (vi)  h
      · replace h := h_neg c h
        refine j_iload_n B dX8_readOperand_100 rfl 2 rfl ?_
        refine j_bipush B dX8_readOperand_101 (v := 33) (by decide) ?_
        refine j_icmp_eq (tgt := 112) B dX8_readOperand_103 (by decide) (fun c => ?_) (fun c => ?_)
        · replace h := h_pos c h
          refine j_locals [0, 1, 2] rfl ?_
          exact tX8_readOperand_112 B E hW hI hR hD (x1) (x2) (vi)  h
        · replace h := h_neg c h
          refine j_iload_n B dX8_readOperand_106 rfl 2 rfl ?_
          refine j_bipush B dX8_readOperand_107 (v := 45) (by decide) ?_
          refine j_icmp_ne (tgt := 133) B dX8_readOperand_109 (by decide) (fun c => ?_) (fun c => ?_)
          · replace h := h_neg c h
            refine j_locals [0] rfl ?_
            exact tX8_readOperand_133 B E hW hI hR hD (vi)  h
          · replace h := h_pos c h
            refine j_locals [0, 1, 2] rfl ?_
            exact tX8_readOperand_112 B E hW hI hR hD (x1) (x2) (vi)  h
  · replace h := h_neg c h
    refine j_aload_n B dX8_readOperand_63 rfl 0 rfl ?_
    refine j_dup B dX8_readOperand_64 rfl ?_
    refine gf_RX8_28 B rfl (wf_5 hW) dX8_readOperand_65 ?_
    refine j_iconst B dX8_readOperand_68 (v := 1) (by decide) ?_
    refine j_iadd B dX8_readOperand_69 ?_
    refine pf_RX8_28 B rfl (wf_5 hW) dX8_readOperand_70 ?_
    refine j_aload_n B dX8_readOperand_73 rfl 0 rfl ?_
    refine gf_RX8_19 B rfl (wf_5 hW) hI dX8_readOperand_74 ?_
    refine j_sipush B dX8_readOperand_77 (v := 10000) (by decide) ?_
    refine j_iload_n B dX8_readOperand_80 rfl 3 rfl ?_
    refine j_iadd B dX8_readOperand_81 ?_
    obtain ⟨r3, hr3, h⟩ := h_bind h
    refine j_cVV (rest := []) B (tX5_add ((wf_law9 hW)) hr3) cls5 (wf_11 hW) jt_RX8_45 wi_X5_add ws_X5_add rfl (by omega) (Nat.le_refl _) (Nat.le_refl _) rfl (Nat.le_of_ble_eq_true rfl) dX8_readOperand_82 ?_
    refine j_goto (tgt := 141) B dX8_readOperand_85 (by decide) ?_
    have e1 := Option.some.inj h
    subst e1
    exact j_vret B E rfl dX8_readOperand_141 (Nat.le_refl _) (Nat.le_refl _) ⟨rfl, rfl, rfl, rfl⟩
def fX8_readOperand_33 (rec : Nat → Int32 → Int32 → VI → Option VI) (x1 : Int32) (s0 : Int32) (vi : VI) : Option (VI) := (fX8_nameOf s0).bind fun r1 => if s0 < 48 then fX8_readOperand_58 rec x1 s0 r1 vi else if 57 < s0 then fX8_readOperand_58 rec x1 s0 r1 vi else (fX8_readNumber vi).bind fun r4 => some (r4)
theorem tX8_readOperand_33 {G : GT} {sv : SV} {vl0 : VL} {ns : Nat} {D : Nat} {rec : Nat → Int32 → Int32 → VI → Option VI} {Γ : CT} {vi' : VI} (B : Base G Γ mX8_readOperand (D + 1) 0 0) (E : Ends G Γ 0 0 (QV sv vi' vl0)) (hW : WF sv ns) (hI : sv.2.2.2 3 4 = 9 + 1) (hR : (∀ {a0 a1 : Int32} {vi vi' : VI}, rec 0 a0 a1 vi = some vi' → Call G mX8_readPart D 0 0 [.ref (G.1 + 3), .int a0, .int a1] sv vi vl0 (QV sv vi' vl0)) ∧ (∀ {a0 : Int32} {vi vi' : VI}, rec 1 a0 0 vi = some vi' → Call G mX8_readOperand D 0 0 [.ref (G.1 + 3), .int a0] sv vi vl0 (QV sv vi' vl0)) ∧ (∀ {a0 a1 : Int32} {vi vi' : VI}, rec 2 a0 a1 vi = some vi' → Call G mX8_readOpened D 0 0 [.ref (G.1 + 3), .int a0, .int a1] sv vi vl0 (QV sv vi' vl0)) ∧ (∀ {a0 a1 : Int32} {vi vi' : VI}, rec 3 a0 a1 vi = some vi' → Call G mX8_readTighter D 0 0 [.ref (G.1 + 3), .int a0, .int a1] sv vi vl0 (QV sv vi' vl0))) (hD : 2 ≤ D) : ∀ (x1 : Int32) (s0 : Int32) (vi : VI), fX8_readOperand_33 rec x1 s0 vi = some (vi') → J G Γ 0 0 33 [(0, .ref (G.1 + 3)), (1, .int x1)] [.int s0] sv vi vl0 := by
  intro x1 s0 vi  h
  unfold fX8_readOperand_33 at h
  refine j_istore_n (L' := [(2, .int s0), (0, .ref (G.1 + 3)), (1, .int x1)]) B dX8_readOperand_33 rfl (by decide) rfl ?_
  refine j_iload_n B dX8_readOperand_34 rfl 0 rfl ?_
  obtain ⟨r1, hr1, h⟩ := h_bind h
  refine j_cSI (rest := []) B (tX8_nameOf hr1) jt_RX8_59 wst_X8_nameOf rfl (by omega) (Nat.le_refl _) (Nat.le_refl _) rfl (Nat.le_of_ble_eq_true rfl) dX8_readOperand_35 ?_
  refine j_istore_n (L' := [(3, .int r1), (2, .int s0), (0, .ref (G.1 + 3)), (1, .int x1)]) B dX8_readOperand_38 rfl (by decide) rfl ?_
  refine j_iload_n B dX8_readOperand_39 rfl 1 rfl ?_
  refine j_bipush B dX8_readOperand_40 (v := 48) (by decide) ?_
  refine j_icmp_lt (tgt := 58) B dX8_readOperand_42 (by decide) (fun c => ?_) (fun c => ?_)
  · replace h := h_pos c h
    refine j_locals [2, 3, 1, 0] rfl ?_
    exact tX8_readOperand_58 B E hW hI hR hD (x1) (s0) (r1) (vi)  h
  · replace h := h_neg c h
    refine j_iload_n B dX8_readOperand_45 rfl 1 rfl ?_
    refine j_bipush B dX8_readOperand_46 (v := 57) (by decide) ?_
    refine j_icmp_gt (tgt := 58) B dX8_readOperand_48 (by decide) (fun c => ?_) (fun c => ?_)
    · replace h := h_pos c h
      refine j_locals [2, 3, 1, 0] rfl ?_
      exact tX8_readOperand_58 B E hW hI hR hD (x1) (s0) (r1) (vi)  h
    · replace h := h_neg c h
      refine j_aload_n B dX8_readOperand_51 rfl 2 rfl ?_
      obtain ⟨r4, hr4, h⟩ := h_bind h
      refine j_cVV (rest := []) B (tX8_readNumber hW hI hr4) cls8 (wf_5 hW) jt_RX8_63 wi_X8_readNumber ws_X8_readNumber rfl (by omega) (Nat.le_refl _) (Nat.le_refl _) rfl (Nat.le_of_ble_eq_true rfl) dX8_readOperand_52 ?_
      refine j_goto (tgt := 141) B dX8_readOperand_55 (by decide) ?_
      have e1 := Option.some.inj h
      subst e1
      exact j_vret B E rfl dX8_readOperand_141 (Nat.le_refl _) (Nat.le_refl _) ⟨rfl, rfl, rfl, rfl⟩
def fX8_readOperand (rec : Nat → Int32 → Int32 → VI → Option VI) (x1 : Int32) (vi0 : VI) : Option (VI) := if (vi0 3 3) = (-1) then if (vi0 3 1) ≤ (vi0 3 2) then fX8_readOperand_33 rec x1 (-1) vi0 else if inb (vi0 3 2) 120 = true then fX8_readOperand_33 rec x1 (vi0 4 (vi0 3 2).toNatClampNeg) vi0 else none else some (vi0)
theorem tX8_readOperand {G : GT} {sv : SV} {vi0 : VI} {vl0 : VL} {ns : Nat} {D : Nat} {rec : Nat → Int32 → Int32 → VI → Option VI} {x1 : Int32} {vi' : VI} (hW : WF sv ns) (hI : sv.2.2.2 3 4 = 9 + 1) (hR : (∀ {a0 a1 : Int32} {vi vi' : VI}, rec 0 a0 a1 vi = some vi' → Call G mX8_readPart D 0 0 [.ref (G.1 + 3), .int a0, .int a1] sv vi vl0 (QV sv vi' vl0)) ∧ (∀ {a0 : Int32} {vi vi' : VI}, rec 1 a0 0 vi = some vi' → Call G mX8_readOperand D 0 0 [.ref (G.1 + 3), .int a0] sv vi vl0 (QV sv vi' vl0)) ∧ (∀ {a0 a1 : Int32} {vi vi' : VI}, rec 2 a0 a1 vi = some vi' → Call G mX8_readOpened D 0 0 [.ref (G.1 + 3), .int a0, .int a1] sv vi vl0 (QV sv vi' vl0)) ∧ (∀ {a0 a1 : Int32} {vi vi' : VI}, rec 3 a0 a1 vi = some vi' → Call G mX8_readTighter D 0 0 [.ref (G.1 + 3), .int a0, .int a1] sv vi vl0 (QV sv vi' vl0))) (hD : 2 ≤ D) (h : fX8_readOperand rec x1 vi0 = some (vi')) : Call G mX8_readOperand (D + 1) 0 0 [.ref (G.1 + 3), .int x1] sv vi0 vl0 (QV sv vi' vl0) := by
  refine j_mk (by decide +kernel) (Nat.le_of_ble_eq_true rfl) (fun Γ B E => ?_)
  show J G Γ 0 0 0 [(0, .ref (G.1 + 3)), (1, .int x1)] [] sv vi0 vl0
  unfold fX8_readOperand at h
  refine j_aload_n B dX8_readOperand_0 rfl 0 rfl ?_
  refine gf_RX8_31 B rfl (wf_5 hW) dX8_readOperand_1 ?_
  refine j_iconst B dX8_readOperand_4 (v := (-1)) (by decide) ?_
  refine j_icmp_eq (tgt := 9) B dX8_readOperand_5 (by decide) (fun c => ?_) (fun c => ?_)
  · replace h := h_pos c h
    refine j_aload_n B dX8_readOperand_9 rfl 0 rfl ?_
    refine gf_RX8_28 B rfl (wf_5 hW) dX8_readOperand_10 ?_
    refine j_aload_n B dX8_readOperand_13 rfl 0 rfl ?_
    refine gf_RX8_15 B rfl (wf_5 hW) dX8_readOperand_14 ?_
    refine j_icmp_ge (tgt := 32) B dX8_readOperand_17 (by decide) (fun c => ?_) (fun c => ?_)
    · replace h := h_pos c h
      refine j_iconst B dX8_readOperand_32 (v := (-1)) (by decide) ?_
      refine j_locals [0, 1] rfl ?_
      exact tX8_readOperand_33 B E hW hI hR hD (x1) ((-1)) (vi0)  h
    · replace h := h_neg c h
      refine j_aload_n B dX8_readOperand_20 rfl 0 rfl ?_
      refine gf_RX8_9 B rfl (wf_5 hW) (wf_103 hW) dX8_readOperand_21 ?_
      refine j_aload_n B dX8_readOperand_24 rfl 0 rfl ?_
      refine gf_RX8_28 B rfl (wf_5 hW) dX8_readOperand_25 ?_
      obtain ⟨b5, h⟩ := h_inb h
      refine j_iald B ((wf_6 hW)) b5 dX8_readOperand_28 ?_
      refine j_goto (tgt := 33) B dX8_readOperand_29 (by decide) ?_
      refine j_locals [0, 1] rfl ?_
      exact tX8_readOperand_33 B E hW hI hR hD (x1) ((vi0 4 (vi0 3 2).toNatClampNeg)) (vi0)  h
  · replace h := h_neg c h
    have e1 := Option.some.inj h
    subst e1
    exact j_vret B E rfl dX8_readOperand_8 (Nat.le_refl _) (Nat.le_refl _) ⟨rfl, rfl, rfl, rfl⟩
def fX8_readOpened_30 (rec : Nat → Int32 → Int32 → VI → Option VI) (s1 : Int32) (vi : VI) : Option (VI) := (fX5_add 9 s1 vi).bind fun r4 => some (r4)
theorem tX8_readOpened_30 {G : GT} {sv : SV} {vl0 : VL} {ns : Nat} {D : Nat} {rec : Nat → Int32 → Int32 → VI → Option VI} {Γ : CT} {vi' : VI} (B : Base G Γ mX8_readOpened (D + 1) 0 0) (E : Ends G Γ 0 0 (QV sv vi' vl0)) (hW : WF sv ns) (hI : sv.2.2.2 3 4 = 9 + 1) (hR : (∀ {a0 a1 : Int32} {vi vi' : VI}, rec 0 a0 a1 vi = some vi' → Call G mX8_readPart D 0 0 [.ref (G.1 + 3), .int a0, .int a1] sv vi vl0 (QV sv vi' vl0)) ∧ (∀ {a0 : Int32} {vi vi' : VI}, rec 1 a0 0 vi = some vi' → Call G mX8_readOperand D 0 0 [.ref (G.1 + 3), .int a0] sv vi vl0 (QV sv vi' vl0)) ∧ (∀ {a0 a1 : Int32} {vi vi' : VI}, rec 2 a0 a1 vi = some vi' → Call G mX8_readOpened D 0 0 [.ref (G.1 + 3), .int a0, .int a1] sv vi vl0 (QV sv vi' vl0)) ∧ (∀ {a0 a1 : Int32} {vi vi' : VI}, rec 3 a0 a1 vi = some vi' → Call G mX8_readTighter D 0 0 [.ref (G.1 + 3), .int a0, .int a1] sv vi vl0 (QV sv vi' vl0))) (hD : 2 ≤ D) : ∀ (s1 : Int32) (vi : VI), fX8_readOpened_30 rec s1 vi = some (vi') → J G Γ 0 0 30 [] [.int s1, .ref (G.1 + 9)] sv vi vl0 := by
  intro s1 vi  h
  unfold fX8_readOpened_30 at h
  obtain ⟨r4, hr4, h⟩ := h_bind h
  refine j_cVV (rest := []) B (tX5_add ((wf_law9 hW)) hr4) cls5 (wf_11 hW) jt_RX8_45 wi_X5_add ws_X5_add rfl (by omega) (Nat.le_refl _) (Nat.le_refl _) rfl (Nat.le_of_ble_eq_true rfl) dX8_readOpened_30 ?_
  have e1 := Option.some.inj h
  subst e1
  exact j_vret B E rfl dX8_readOpened_33 (Nat.le_refl _) (Nat.le_refl _) ⟨rfl, rfl, rfl, rfl⟩
def fX8_readOpened (rec : Nat → Int32 → Int32 → VI → Option VI) (x1 : Int32) (x2 : Int32) (vi0 : VI) : Option (VI) := if x1 = 40 then (rec 0 0 x2 vi0).bind fun r1 => if (r1 3 3) = (-1) then (fX8_passes 41 r1).bind fun r2 => if r2.1 = true then some (r2.2) else some ((j_up r2.2 3 3 (r2.2 3 2))) else some (r1) else (rec 1 x2 0 vi0).bind fun r3 => if x1 = 33 then fX8_readOpened_30 rec 20033 r3 else fX8_readOpened_30 rec 20126 r3
theorem tX8_readOpened {G : GT} {sv : SV} {vi0 : VI} {vl0 : VL} {ns : Nat} {D : Nat} {rec : Nat → Int32 → Int32 → VI → Option VI} {x1 : Int32} {x2 : Int32} {vi' : VI} (hW : WF sv ns) (hI : sv.2.2.2 3 4 = 9 + 1) (hR : (∀ {a0 a1 : Int32} {vi vi' : VI}, rec 0 a0 a1 vi = some vi' → Call G mX8_readPart D 0 0 [.ref (G.1 + 3), .int a0, .int a1] sv vi vl0 (QV sv vi' vl0)) ∧ (∀ {a0 : Int32} {vi vi' : VI}, rec 1 a0 0 vi = some vi' → Call G mX8_readOperand D 0 0 [.ref (G.1 + 3), .int a0] sv vi vl0 (QV sv vi' vl0)) ∧ (∀ {a0 a1 : Int32} {vi vi' : VI}, rec 2 a0 a1 vi = some vi' → Call G mX8_readOpened D 0 0 [.ref (G.1 + 3), .int a0, .int a1] sv vi vl0 (QV sv vi' vl0)) ∧ (∀ {a0 a1 : Int32} {vi vi' : VI}, rec 3 a0 a1 vi = some vi' → Call G mX8_readTighter D 0 0 [.ref (G.1 + 3), .int a0, .int a1] sv vi vl0 (QV sv vi' vl0))) (hD : 2 ≤ D) (h : fX8_readOpened rec x1 x2 vi0 = some (vi')) : Call G mX8_readOpened (D + 1) 0 0 [.ref (G.1 + 3), .int x1, .int x2] sv vi0 vl0 (QV sv vi' vl0) := by
  refine j_mk (by decide +kernel) (Nat.le_of_ble_eq_true rfl) (fun Γ B E => ?_)
  show J G Γ 0 0 0 [(0, .ref (G.1 + 3)), (1, .int x1), (2, .int x2)] [] sv vi0 vl0
  unfold fX8_readOpened at h
  refine j_iload_n B dX8_readOpened_0 rfl 1 rfl ?_
  refine j_bipush B dX8_readOpened_1 (v := 40) (by decide) ?_
  refine j_icmp_eq (tgt := 34) B dX8_readOpened_3 (by decide) (fun c => ?_) (fun c => ?_)
  · replace h := h_pos c h
    refine j_aload_n B dX8_readOpened_34 rfl 0 rfl ?_
    refine j_iconst B dX8_readOpened_35 (v := 0) (by decide) ?_
    refine j_iload_n B dX8_readOpened_36 rfl 2 rfl ?_
    obtain ⟨r1, hr1, h⟩ := h_bind h
    refine j_cVV (rest := []) B (hR.1  hr1) cls8 (wf_5 hW) jt_RX8_41 wi_X8_readPart ws_X8_readPart rfl (by omega) (Nat.le_refl _) (Nat.le_refl _) rfl (Nat.le_of_ble_eq_true rfl) dX8_readOpened_37 ?_
    refine j_aload_n B dX8_readOpened_40 rfl 0 rfl ?_
    refine gf_RX8_31 B rfl (wf_5 hW) dX8_readOpened_41 ?_
    refine j_iconst B dX8_readOpened_44 (v := (-1)) (by decide) ?_
    refine j_icmp_ne (tgt := 65) B dX8_readOpened_45 (by decide) (fun c => ?_) (fun c => ?_)
    · replace h := h_neg c h
      have e1 := Option.some.inj h
      subst e1
      exact j_vret B E rfl dX8_readOpened_65 (Nat.le_refl _) (Nat.le_refl _) ⟨rfl, rfl, rfl, rfl⟩
    · replace h := h_pos c h
      refine j_aload_n B dX8_readOpened_48 rfl 0 rfl ?_
      refine j_bipush B dX8_readOpened_49 (v := 41) (by decide) ?_
      obtain ⟨r2, hr2, h⟩ := h_bind h
      refine j_cVI (rest := []) B (tX8_passes hW hr2) cls8 (wf_5 hW) jt_RX8_37 wi_X8_passes ws_X8_passes rfl (by omega) (Nat.le_refl _) (Nat.le_refl _) rfl (Nat.le_of_ble_eq_true rfl) dX8_readOpened_51 ?_
      refine j_if_ne (tgt := 65) B dX8_readOpened_54 (by decide) (fun c => ?_) (fun c => ?_)
      · replace h := h_pos (b2i_1 c) h
        have e1 := Option.some.inj h
        subst e1
        exact j_vret B E rfl dX8_readOpened_65 (Nat.le_refl _) (Nat.le_refl _) ⟨rfl, rfl, rfl, rfl⟩
      · replace h := h_neg (b2i_0 c) h
        refine j_aload_n B dX8_readOpened_57 rfl 0 rfl ?_
        refine j_aload_n B dX8_readOpened_58 rfl 0 rfl ?_
        refine gf_RX8_28 B rfl (wf_5 hW) dX8_readOpened_59 ?_
        refine pf_RX8_31 B rfl (wf_5 hW) dX8_readOpened_62 ?_
        have e1 := Option.some.inj h
        subst e1
        exact j_vret B E rfl dX8_readOpened_65 (Nat.le_refl _) (Nat.le_refl _) ⟨rfl, rfl, rfl, rfl⟩
  · replace h := h_neg c h
    refine j_aload_n B dX8_readOpened_6 rfl 0 rfl ?_
    refine j_iload_n B dX8_readOpened_7 rfl 2 rfl ?_
    obtain ⟨r3, hr3, h⟩ := h_bind h
    refine j_cVV (rest := []) B (hR.2.1  hr3) cls8 (wf_5 hW) jt_RX8_56 wi_X8_readOperand ws_X8_readOperand rfl (by omega) (Nat.le_refl _) (Nat.le_refl _) rfl (Nat.le_of_ble_eq_true rfl) dX8_readOpened_8 ?_
    refine j_aload_n B dX8_readOpened_11 rfl 0 rfl ?_
    refine gf_RX8_19 B rfl (wf_5 hW) hI dX8_readOpened_12 ?_
    refine j_iload_n B dX8_readOpened_15 rfl 1 rfl ?_
    refine j_bipush B dX8_readOpened_16 (v := 33) (by decide) ?_
    refine j_icmp_ne (tgt := 27) B dX8_readOpened_18 (by decide) (fun c => ?_) (fun c => ?_)
    · replace h := h_neg c h
      refine j_sipush B dX8_readOpened_27 (v := 20126) (by decide) ?_
      refine j_locals [] rfl ?_
      exact tX8_readOpened_30 B E hW hI hR hD (20126) (r3)  h
    · replace h := h_pos c h
      refine j_sipush B dX8_readOpened_21 (v := 20033) (by decide) ?_
      refine j_goto (tgt := 30) B dX8_readOpened_24 (by decide) ?_
      refine j_locals [] rfl ?_
      exact tX8_readOpened_30 B E hW hI hR hD (20033) (r3)  h
def fX8_readTighter (rec : Nat → Int32 → Int32 → VI → Option VI) (x1 : Int32) (x2 : Int32) (vi0 : VI) : Option (VI) := if 4 ≤ x1 then (rec 1 x2 0 vi0).bind fun r1 => some (r1) else (rec 0 (x1 + 1) x2 vi0).bind fun r2 => some (r2)
theorem tX8_readTighter {G : GT} {sv : SV} {vi0 : VI} {vl0 : VL} {ns : Nat} {D : Nat} {rec : Nat → Int32 → Int32 → VI → Option VI} {x1 : Int32} {x2 : Int32} {vi' : VI} (hW : WF sv ns) (hI : sv.2.2.2 3 4 = 9 + 1) (hR : (∀ {a0 a1 : Int32} {vi vi' : VI}, rec 0 a0 a1 vi = some vi' → Call G mX8_readPart D 0 0 [.ref (G.1 + 3), .int a0, .int a1] sv vi vl0 (QV sv vi' vl0)) ∧ (∀ {a0 : Int32} {vi vi' : VI}, rec 1 a0 0 vi = some vi' → Call G mX8_readOperand D 0 0 [.ref (G.1 + 3), .int a0] sv vi vl0 (QV sv vi' vl0)) ∧ (∀ {a0 a1 : Int32} {vi vi' : VI}, rec 2 a0 a1 vi = some vi' → Call G mX8_readOpened D 0 0 [.ref (G.1 + 3), .int a0, .int a1] sv vi vl0 (QV sv vi' vl0)) ∧ (∀ {a0 a1 : Int32} {vi vi' : VI}, rec 3 a0 a1 vi = some vi' → Call G mX8_readTighter D 0 0 [.ref (G.1 + 3), .int a0, .int a1] sv vi vl0 (QV sv vi' vl0))) (hD : 2 ≤ D) (h : fX8_readTighter rec x1 x2 vi0 = some (vi')) : Call G mX8_readTighter (D + 1) 0 0 [.ref (G.1 + 3), .int x1, .int x2] sv vi0 vl0 (QV sv vi' vl0) := by
  refine j_mk (by decide +kernel) (Nat.le_of_ble_eq_true rfl) (fun Γ B E => ?_)
  show J G Γ 0 0 0 [(0, .ref (G.1 + 3)), (1, .int x1), (2, .int x2)] [] sv vi0 vl0
  unfold fX8_readTighter at h
  refine j_iload_n B dX8_readTighter_0 rfl 1 rfl ?_
  refine j_iconst B dX8_readTighter_1 (v := 4) (by decide) ?_
  refine j_icmp_ge (tgt := 16) B dX8_readTighter_2 (by decide) (fun c => ?_) (fun c => ?_)
  · replace h := h_pos c h
    refine j_aload_n B dX8_readTighter_16 rfl 0 rfl ?_
    refine j_iload_n B dX8_readTighter_17 rfl 2 rfl ?_
    obtain ⟨r1, hr1, h⟩ := h_bind h
    refine j_cVV (rest := []) B (hR.2.1  hr1) cls8 (wf_5 hW) jt_RX8_56 wi_X8_readOperand ws_X8_readOperand rfl (by omega) (Nat.le_refl _) (Nat.le_refl _) rfl (Nat.le_of_ble_eq_true rfl) dX8_readTighter_18 ?_
    have e1 := Option.some.inj h
    subst e1
    exact j_vret B E rfl dX8_readTighter_21 (Nat.le_refl _) (Nat.le_refl _) ⟨rfl, rfl, rfl, rfl⟩
  · replace h := h_neg c h
    refine j_aload_n B dX8_readTighter_5 rfl 0 rfl ?_
    refine j_iload_n B dX8_readTighter_6 rfl 1 rfl ?_
    refine j_iconst B dX8_readTighter_7 (v := 1) (by decide) ?_
    refine j_iadd B dX8_readTighter_8 ?_
    refine j_iload_n B dX8_readTighter_9 rfl 2 rfl ?_
    obtain ⟨r2, hr2, h⟩ := h_bind h
    refine j_cVV (rest := []) B (hR.1  hr2) cls8 (wf_5 hW) jt_RX8_41 wi_X8_readPart ws_X8_readPart rfl (by omega) (Nat.le_refl _) (Nat.le_refl _) rfl (Nat.le_of_ble_eq_true rfl) dX8_readTighter_10 ?_
    refine j_goto (tgt := 21) B dX8_readTighter_13 (by decide) ?_
    have e1 := Option.some.inj h
    subst e1
    exact j_vret B E rfl dX8_readTighter_21 (Nat.le_refl _) (Nat.le_refl _) ⟨rfl, rfl, rfl, rfl⟩
def fX8g : Nat → Nat → Int32 → Int32 → VI → Option VI
  | 0, _, _, _, _ => none
  | D + 1, sel, a, b, vi => if sel = 0 then fX8_readPart (fX8g D) a b vi else if sel = 1 then fX8_readOperand (fX8g D) a vi else if sel = 2 then fX8_readOpened (fX8g D) a b vi else if sel = 3 then fX8_readTighter (fX8g D) a b vi else none
theorem tX8g {G : GT} {sv : SV} {vl0 : VL} {ns : Nat} (hW : WF sv ns) (hI : sv.2.2.2 3 4 = 9 + 1) : ∀ n : Nat, (∀ {a0 a1 : Int32} {vi vi' : VI}, fX8g n 0 a0 a1 vi = some vi' → Call G mX8_readPart (n + 2) 0 0 [.ref (G.1 + 3), .int a0, .int a1] sv vi vl0 (QV sv vi' vl0)) ∧ (∀ {a0 : Int32} {vi vi' : VI}, fX8g n 1 a0 0 vi = some vi' → Call G mX8_readOperand (n + 2) 0 0 [.ref (G.1 + 3), .int a0] sv vi vl0 (QV sv vi' vl0)) ∧ (∀ {a0 a1 : Int32} {vi vi' : VI}, fX8g n 2 a0 a1 vi = some vi' → Call G mX8_readOpened (n + 2) 0 0 [.ref (G.1 + 3), .int a0, .int a1] sv vi vl0 (QV sv vi' vl0)) ∧ (∀ {a0 a1 : Int32} {vi vi' : VI}, fX8g n 3 a0 a1 vi = some vi' → Call G mX8_readTighter (n + 2) 0 0 [.ref (G.1 + 3), .int a0, .int a1] sv vi vl0 (QV sv vi' vl0)) := by
  intro n
  induction n with
  | zero => refine ⟨?_, ?_, ?_, ?_⟩ <;> (intros; rename_i h; cases h)
  | succ n ih =>
    refine ⟨?_, ?_, ?_, ?_⟩
    · intro a b vi vi' h
      rw [fX8g] at h
      replace h := h_pos rfl h
      exact tX8_readPart (D := n + 2) (rec := fX8g n) hW hI ih (by omega) h
    · intro a vi vi' h
      rw [fX8g] at h
      replace h := h_neg (by decide) h
      replace h := h_pos rfl h
      exact tX8_readOperand (D := n + 2) (rec := fX8g n) hW hI ih (by omega) h
    · intro a b vi vi' h
      rw [fX8g] at h
      replace h := h_neg (by decide) h
      replace h := h_neg (by decide) h
      replace h := h_pos rfl h
      exact tX8_readOpened (D := n + 2) (rec := fX8g n) hW hI ih (by omega) h
    · intro a b vi vi' h
      rw [fX8g] at h
      replace h := h_neg (by decide) h
      replace h := h_neg (by decide) h
      replace h := h_neg (by decide) h
      replace h := h_pos rfl h
      exact tX8_readTighter (D := n + 2) (rec := fX8g n) hW hI ih (by omega) h
theorem tX8_readPart_g {G : GT} {sv : SV} {vi : VI} {vl0 : VL} {ns : Nat} {a0 a1 : Int32} {vi' : VI} (hW : WF sv ns) (hI : sv.2.2.2 3 4 = 9 + 1) (h : fX8g 100 0 a0 a1 vi = some vi') : Call G mX8_readPart 102 0 0 [.ref (G.1 + 3), .int a0, .int a1] sv vi vl0 (QV sv vi' vl0) := (tX8g hW hI 100).1 h
theorem tX8_readOperand_g {G : GT} {sv : SV} {vi : VI} {vl0 : VL} {ns : Nat} {a0 : Int32} {vi' : VI} (hW : WF sv ns) (hI : sv.2.2.2 3 4 = 9 + 1) (h : fX8g 100 1 a0 0 vi = some vi') : Call G mX8_readOperand 102 0 0 [.ref (G.1 + 3), .int a0] sv vi vl0 (QV sv vi' vl0) := (tX8g hW hI 100).2.1 h
theorem tX8_readOpened_g {G : GT} {sv : SV} {vi : VI} {vl0 : VL} {ns : Nat} {a0 a1 : Int32} {vi' : VI} (hW : WF sv ns) (hI : sv.2.2.2 3 4 = 9 + 1) (h : fX8g 100 2 a0 a1 vi = some vi') : Call G mX8_readOpened 102 0 0 [.ref (G.1 + 3), .int a0, .int a1] sv vi vl0 (QV sv vi' vl0) := (tX8g hW hI 100).2.2.1 h
theorem tX8_readTighter_g {G : GT} {sv : SV} {vi : VI} {vl0 : VL} {ns : Nat} {a0 a1 : Int32} {vi' : VI} (hW : WF sv ns) (hI : sv.2.2.2 3 4 = 9 + 1) (h : fX8g 100 3 a0 a1 vi = some vi') : Call G mX8_readTighter 102 0 0 [.ref (G.1 + 3), .int a0, .int a1] sv vi vl0 (QV sv vi' vl0) := (tX8g hW hI 100).2.2.2 h
def fX8_readLine_31  (vi : VI) : Option (VI) := (fX5_add 9 20059 vi).bind fun r3 => some (r3)
theorem tX8_readLine_31 {G : GT} {sv : SV} {vl0 : VL} {ns : Nat} {Γ : CT} {vi' : VI} (B : Base G Γ mX8_readLine 103 0 0) (E : Ends G Γ 0 0 (QV sv vi' vl0)) (hW : WF sv ns) (hI : sv.2.2.2 3 4 = 9 + 1) : ∀ (vi : VI), fX8_readLine_31  vi = some (vi') → J G Γ 0 0 31 [(0, .ref (G.1 + 3))] [] sv vi vl0 := by
  intro vi  h
  unfold fX8_readLine_31 at h
  refine j_aload_n B dX8_readLine_31 rfl 0 rfl ?_
  refine gf_RX8_19 B rfl (wf_5 hW) hI dX8_readLine_32 ?_
  refine j_sipush B dX8_readLine_35 (v := 20059) (by decide) ?_
  obtain ⟨r3, hr3, h⟩ := h_bind h
  refine j_cVV (rest := []) B (tX5_add ((wf_law9 hW)) hr3) cls5 (wf_11 hW) jt_RX8_45 wi_X5_add ws_X5_add rfl (by decide) (Nat.le_refl _) (Nat.le_refl _) rfl (Nat.le_of_ble_eq_true rfl) dX8_readLine_38 ?_
  have e1 := Option.some.inj h
  subst e1
  exact j_vret B E rfl dX8_readLine_41 (Nat.le_refl _) (Nat.le_refl _) ⟨rfl, rfl, rfl, rfl⟩
def fX8_readLine  (vi0 : VI) : Option (VI) := (fX8g 100 0 0 0 vi0).bind fun r1 => (fX8_passes 63 r1).bind fun r2 => if r2.1 = true then (fX5_add 9 20063 r2.2).bind fun r4 => (fX8g 100 0 0 0 r4).bind fun r5 => fX8_readLine_31  r5 else fX8_readLine_31  r2.2
theorem tX8_readLine {G : GT} {sv : SV} {vi0 : VI} {vl0 : VL} {ns : Nat} {vi' : VI} (hW : WF sv ns) (hI : sv.2.2.2 3 4 = 9 + 1) (h : fX8_readLine vi0 = some (vi')) : Call G mX8_readLine 103 0 0 [.ref (G.1 + 3)] sv vi0 vl0 (QV sv vi' vl0) := by
  refine j_mk (by decide +kernel) (Nat.le_of_ble_eq_true rfl) (fun Γ B E => ?_)
  show J G Γ 0 0 0 [(0, .ref (G.1 + 3))] [] sv vi0 vl0
  unfold fX8_readLine at h
  refine j_aload_n B dX8_readLine_0 rfl 0 rfl ?_
  refine j_iconst B dX8_readLine_1 (v := 0) (by decide) ?_
  refine j_iconst B dX8_readLine_2 (v := 0) (by decide) ?_
  obtain ⟨r1, hr1, h⟩ := h_bind h
  refine j_cVV (rest := []) B (tX8_readPart_g hW hI hr1) cls8 (wf_5 hW) jt_RX8_41 wi_X8_readPart ws_X8_readPart rfl (by decide) (Nat.le_refl _) (Nat.le_refl _) rfl (Nat.le_of_ble_eq_true rfl) dX8_readLine_3 ?_
  refine j_aload_n B dX8_readLine_6 rfl 0 rfl ?_
  refine j_bipush B dX8_readLine_7 (v := 63) (by decide) ?_
  obtain ⟨r2, hr2, h⟩ := h_bind h
  refine j_cVI (rest := []) B (tX8_passes hW hr2) cls8 (wf_5 hW) jt_RX8_37 wi_X8_passes ws_X8_passes rfl (by decide) (Nat.le_refl _) (Nat.le_refl _) rfl (Nat.le_of_ble_eq_true rfl) dX8_readLine_9 ?_
  refine j_if_eq (tgt := 31) B dX8_readLine_12 (by decide) (fun c => ?_) (fun c => ?_)
  · replace h := h_neg (b2i_0 c) h
    refine j_locals [0] rfl ?_
    exact tX8_readLine_31 B E hW hI (r2.2)  h
  · replace h := h_pos (b2i_1 c) h
    refine j_aload_n B dX8_readLine_15 rfl 0 rfl ?_
    refine gf_RX8_19 B rfl (wf_5 hW) hI dX8_readLine_16 ?_
    refine j_sipush B dX8_readLine_19 (v := 20063) (by decide) ?_
    obtain ⟨r4, hr4, h⟩ := h_bind h
    refine j_cVV (rest := []) B (tX5_add ((wf_law9 hW)) hr4) cls5 (wf_11 hW) jt_RX8_45 wi_X5_add ws_X5_add rfl (by decide) (Nat.le_refl _) (Nat.le_refl _) rfl (Nat.le_of_ble_eq_true rfl) dX8_readLine_22 ?_
    refine j_aload_n B dX8_readLine_25 rfl 0 rfl ?_
    refine j_iconst B dX8_readLine_26 (v := 0) (by decide) ?_
    refine j_iconst B dX8_readLine_27 (v := 0) (by decide) ?_
    obtain ⟨r5, hr5, h⟩ := h_bind h
    refine j_cVV (rest := []) B (tX8_readPart_g hW hI hr5) cls8 (wf_5 hW) jt_RX8_41 wi_X8_readPart ws_X8_readPart rfl (by decide) (Nat.le_refl _) (Nat.le_refl _) rfl (Nat.le_of_ble_eq_true rfl) dX8_readLine_28 ?_
    refine j_locals [0] rfl ?_
    exact tX8_readLine_31 B E hW hI (r5)  h
def fX8_readInto_78  (k29 : Int32 → VI → Option (Int32 × VI)) (x2 : Int32) (vi : VI) : Option (Int32 × VI) := k29 (x2 + 1) vi
theorem tX8_readInto_78 {G : GT} {sv : SV} {vl0 : VL} {ns : Nat} {Γ : CT} {r : Int32} {vi' : VI} {k29 : Int32 → VI → Option (Int32 × VI)} (B : Base G Γ mX8_readInto 104 0 0) (E : Ends G Γ 0 0 (QI r sv vi' vl0)) (hW : WF sv ns) (hI : sv.2.2.2 3 4 = 9 + 1) (hk29 : ∀ (x2 : Int32) (vi : VI), k29 x2 vi = some (r, vi') → J G Γ 0 0 29 [(0, .ref (G.1 + 3)), (2, .int x2)] [] sv vi vl0) : ∀ (x2 : Int32) (vi : VI), fX8_readInto_78 k29 x2 vi = some (r, vi') → J G Γ 0 0 78 [(0, .ref (G.1 + 3)), (2, .int x2)] [] sv vi vl0 := by
  intro x2 vi  h
  unfold fX8_readInto_78 at h
  refine j_iinc (v := (x2 + 1)) (L' := [(2, .int (x2 + 1)), (0, .ref (G.1 + 3))]) B dX8_readInto_78 1 rfl rfl (by decide) rfl ?_
  refine j_goto (tgt := 29) B dX8_readInto_81 (by decide) ?_
  refine j_locals [1, 0] rfl ?_
  exact hk29 ((x2 + 1)) (vi)  h
def fX8_readInto_29  : Nat → Int32 → VI → Option (Int32 × VI)
  | 0, _, _ => none
  | F + 1, x2, vi => if 120 < x2 then some ((vi 3 3), vi) else if (vi 3 3) = (-1) then if (vi 3 1) ≤ (vi 3 2) then some ((vi 3 3), vi) else (fX8_passes 59 vi).bind fun r2 => if r2.1 = true then (fX8_readLine r2.2).bind fun r3 => fX8_readInto_78 (fX8_readInto_29  F) x2 r3 else fX8_readInto_78 (fX8_readInto_29  F) x2 (j_up r2.2 3 3 (r2.2 3 2)) else some ((vi 3 3), vi)
theorem tX8_readInto_29 {G : GT} {sv : SV} {vl0 : VL} {ns : Nat} {Γ : CT} {r : Int32} {vi' : VI} (B : Base G Γ mX8_readInto 104 0 0) (E : Ends G Γ 0 0 (QI r sv vi' vl0)) (hW : WF sv ns) (hI : sv.2.2.2 3 4 = 9 + 1) : ∀ (F : Nat) (x2 : Int32) (vi : VI), fX8_readInto_29  F x2 vi = some (r, vi') → J G Γ 0 0 29 [(0, .ref (G.1 + 3)), (2, .int x2)] [] sv vi vl0 := by
  intro F
  induction F with
  | zero =>
    intro x2 vi  h
    cases (show (none : Option (Int32 × VI)) = some (r, vi') from h)
  | succ F ih =>
    intro x2 vi  h
    rw [fX8_readInto_29] at h
    refine j_iload_n B dX8_readInto_29 rfl 1 rfl ?_
    refine j_bipush B dX8_readInto_30 (v := 120) (by decide) ?_
    refine j_icmp_gt (tgt := 84) B dX8_readInto_32 (by decide) (fun c => ?_) (fun c => ?_)
    · replace h := h_pos c h
      refine j_aload_n B dX8_readInto_84 rfl 0 rfl ?_
      refine gf_RX8_31 B rfl (wf_5 hW) dX8_readInto_85 ?_
      obtain ⟨e1, e2⟩ := Prod.mk.inj (Option.some.inj h)
      subst e1
      subst e2
      exact j_iret B E rfl dX8_readInto_88 (Nat.le_refl _) (Nat.le_refl _) ⟨rfl, rfl, rfl, rfl⟩
    · replace h := h_neg c h
      refine j_aload_n B dX8_readInto_35 rfl 0 rfl ?_
      refine gf_RX8_31 B rfl (wf_5 hW) dX8_readInto_36 ?_
      refine j_iconst B dX8_readInto_39 (v := (-1)) (by decide) ?_
      refine j_icmp_ne (tgt := 84) B dX8_readInto_40 (by decide) (fun c => ?_) (fun c => ?_)
      · replace h := h_neg c h
        refine j_aload_n B dX8_readInto_84 rfl 0 rfl ?_
        refine gf_RX8_31 B rfl (wf_5 hW) dX8_readInto_85 ?_
        obtain ⟨e1, e2⟩ := Prod.mk.inj (Option.some.inj h)
        subst e1
        subst e2
        exact j_iret B E rfl dX8_readInto_88 (Nat.le_refl _) (Nat.le_refl _) ⟨rfl, rfl, rfl, rfl⟩
      · replace h := h_pos c h
        refine j_aload_n B dX8_readInto_43 rfl 0 rfl ?_
        refine gf_RX8_28 B rfl (wf_5 hW) dX8_readInto_44 ?_
        refine j_aload_n B dX8_readInto_47 rfl 0 rfl ?_
        refine gf_RX8_15 B rfl (wf_5 hW) dX8_readInto_48 ?_
        refine j_icmp_ge (tgt := 84) B dX8_readInto_51 (by decide) (fun c => ?_) (fun c => ?_)
        · replace h := h_pos c h
          refine j_aload_n B dX8_readInto_84 rfl 0 rfl ?_
          refine gf_RX8_31 B rfl (wf_5 hW) dX8_readInto_85 ?_
          obtain ⟨e1, e2⟩ := Prod.mk.inj (Option.some.inj h)
          subst e1
          subst e2
          exact j_iret B E rfl dX8_readInto_88 (Nat.le_refl _) (Nat.le_refl _) ⟨rfl, rfl, rfl, rfl⟩
        · replace h := h_neg c h
          refine j_aload_n B dX8_readInto_54 rfl 0 rfl ?_
          refine j_bipush B dX8_readInto_55 (v := 59) (by decide) ?_
          obtain ⟨r2, hr2, h⟩ := h_bind h
          refine j_cVI (rest := []) B (tX8_passes hW hr2) cls8 (wf_5 hW) jt_RX8_37 wi_X8_passes ws_X8_passes rfl (by decide) (Nat.le_refl _) (Nat.le_refl _) rfl (Nat.le_of_ble_eq_true rfl) dX8_readInto_57 ?_
          refine j_if_eq (tgt := 70) B dX8_readInto_60 (by decide) (fun c => ?_) (fun c => ?_)
          · replace h := h_neg (b2i_0 c) h
            refine j_aload_n B dX8_readInto_70 rfl 0 rfl ?_
            refine j_aload_n B dX8_readInto_71 rfl 0 rfl ?_
            refine gf_RX8_28 B rfl (wf_5 hW) dX8_readInto_72 ?_
            refine pf_RX8_31 B rfl (wf_5 hW) dX8_readInto_75 ?_
            refine j_locals [0, 1] rfl ?_
            exact tX8_readInto_78 B E hW hI ih (x2) ((j_up r2.2 3 3 (r2.2 3 2)))  h
          · replace h := h_pos (b2i_1 c) h
            refine j_aload_n B dX8_readInto_63 rfl 0 rfl ?_
            obtain ⟨r3, hr3, h⟩ := h_bind h
            refine j_cVV (rest := []) B (tX8_readLine hW hI hr3) cls8 (wf_5 hW) jt_RX8_34 wi_X8_readLine ws_X8_readLine rfl (by decide) (Nat.le_refl _) (Nat.le_refl _) rfl (Nat.le_of_ble_eq_true rfl) dX8_readInto_64 ?_
            refine j_goto (tgt := 78) B dX8_readInto_67 (by decide) ?_
            refine j_locals [0, 1] rfl ?_
            exact tX8_readInto_78 B E hW hI ih (x2) (r3)  h
def fX8_readInto  (vi0 : VI) : Option (Int32 × VI) := (fX8_readLine (j_up (j_up (j_up vi0 9 1 0) 3 2 0) 3 3 (-1))).bind fun r1 => fX8_readInto_29  FU 1 r1
theorem tX8_readInto {G : GT} {sv : SV} {vi0 : VI} {vl0 : VL} {ns : Nat} {r : Int32} {vi' : VI} (hW : WF sv ns) (h : fX8_readInto vi0 = some (r, vi')) : Call G mX8_readInto 104 0 0 [.ref (G.1 + 3), .ref (G.1 + 9)] sv vi0 vl0 (QI r (j_svr sv 3 4 (9 + 1)) vi' vl0) := by
  refine j_mk (by decide +kernel) (Nat.le_of_ble_eq_true rfl) (fun Γ B E => ?_)
  show J G Γ 0 0 0 [(0, .ref (G.1 + 3)), (1, .ref (G.1 + 9))] [] sv vi0 vl0
  unfold fX8_readInto at h
  refine j_aload_n B dX8_readInto_0 rfl 0 rfl ?_
  refine j_aload_n B dX8_readInto_1 rfl 1 rfl ?_
  refine pf_RX8_19 B rfl (wf_5 hW) dX8_readInto_2 ?_
  have hI : (j_svr sv 3 4 (9 + 1)).2.2.2 3 4 = 9 + 1 := svr_into
  replace hW := wf_into (r := 9 + 1) hW
  refine j_aload_n B dX8_readInto_5 rfl 0 rfl ?_
  refine gf_RX8_19 B rfl (wf_5 hW) hI dX8_readInto_6 ?_
  refine j_iconst B dX8_readInto_9 (v := 0) (by decide) ?_
  refine pf_RX8_23 B rfl (wf_11 hW) dX8_readInto_10 ?_
  refine j_aload_n B dX8_readInto_13 rfl 0 rfl ?_
  refine j_iconst B dX8_readInto_14 (v := 0) (by decide) ?_
  refine pf_RX8_28 B rfl (wf_5 hW) dX8_readInto_15 ?_
  refine j_aload_n B dX8_readInto_18 rfl 0 rfl ?_
  refine j_iconst B dX8_readInto_19 (v := (-1)) (by decide) ?_
  refine pf_RX8_31 B rfl (wf_5 hW) dX8_readInto_20 ?_
  refine j_aload_n B dX8_readInto_23 rfl 0 rfl ?_
  obtain ⟨r1, hr1, h⟩ := h_bind h
  refine j_cVV (rest := []) B (tX8_readLine hW hI hr1) cls8 (wf_5 hW) jt_RX8_34 wi_X8_readLine ws_X8_readLine rfl (by decide) (Nat.le_refl _) (Nat.le_refl _) rfl (Nat.le_of_ble_eq_true rfl) dX8_readInto_24 ?_
  refine j_iconst B dX8_readInto_27 (v := 1) (by decide) ?_
  refine j_istore_n (L' := [(2, .int 1), (0, .ref (G.1 + 3)), (1, .ref (G.1 + 9))]) B dX8_readInto_28 rfl (by decide) rfl ?_
  refine j_locals [1, 0] rfl ?_
  exact tX8_readInto_29 B E hW hI FU (1) (r1)  h
