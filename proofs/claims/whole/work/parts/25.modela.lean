def fX10_in (x0 : Int32) (x1 : Int32) (x2 : Int32)  : Option (Bool) := if x0 < x1 then some (false) else if x2 < x0 then some (false) else some (true)
theorem tX10_in {G : GT} {sv : SV} {vi0 : VI} {vl0 : VL} {x0 : Int32} {x1 : Int32} {x2 : Int32} {r : Bool} (h : fX10_in x0 x1 x2 = some (r)) : Call G mX10_in 0 0 0 [.int x0, .int x1, .int x2] sv vi0 vl0 (QI (b2i r) sv vi0 vl0) := by
  refine j_mk (by decide +kernel) (Nat.le_of_ble_eq_true rfl) (fun Γ B E => ?_)
  show J G Γ 0 0 0 [(0, .int x0), (1, .int x1), (2, .int x2)] [] sv vi0 vl0
  unfold fX10_in at h
  refine j_iload_n B dX10_in_0 rfl 0 rfl ?_
  refine j_iload_n B dX10_in_1 rfl 1 rfl ?_
  refine j_icmp_lt (tgt := 14) B dX10_in_2 (by decide) (fun c => ?_) (fun c => ?_)
  · replace h := h_pos c h
    refine j_iconst B dX10_in_14 (v := 0) (by decide) ?_
    have e1 := Option.some.inj h
    subst e1
    exact j_zret B E rfl (Or.inl rfl) dX10_in_15 (Nat.le_refl _) (Nat.le_refl _) ⟨rfl, rfl, rfl, rfl⟩
  · replace h := h_neg c h
    refine j_iload_n B dX10_in_5 rfl 0 rfl ?_
    refine j_iload_n B dX10_in_6 rfl 2 rfl ?_
    refine j_icmp_gt (tgt := 14) B dX10_in_7 (by decide) (fun c => ?_) (fun c => ?_)
    · replace h := h_pos c h
      refine j_iconst B dX10_in_14 (v := 0) (by decide) ?_
      have e1 := Option.some.inj h
      subst e1
      exact j_zret B E rfl (Or.inl rfl) dX10_in_15 (Nat.le_refl _) (Nat.le_refl _) ⟨rfl, rfl, rfl, rfl⟩
    · replace h := h_neg c h
      refine j_iconst B dX10_in_10 (v := 1) (by decide) ?_
      refine j_goto (tgt := 15) B dX10_in_11 (by decide) ?_
      have e1 := Option.some.inj h
      subst e1
      exact j_zret B E rfl (Or.inr rfl) dX10_in_15 (Nat.le_refl _) (Nat.le_refl _) ⟨rfl, rfl, rfl, rfl⟩
def fX10_bitsOf_4  : Nat → Int32 → Int32 → Option (Int32)
  | 0, _, _ => none
  | F + 1, x1, x2 => if x2 = 0 then some (x1) else fX10_bitsOf_4  F (x1 + 1) (x2 &&& (x2 - 1))
theorem tX10_bitsOf_4 {G : GT} {sv : SV} {vi0 : VI} {vl0 : VL} {Γ : CT} {r : Int32} (B : Base G Γ mX10_bitsOf 0 0 0) (E : Ends G Γ 0 0 (QI r sv vi0 vl0)) : ∀ (F : Nat) (x1 : Int32) (x2 : Int32), fX10_bitsOf_4  F x1 x2 = some (r) → J G Γ 0 0 4 [(1, .int x1), (2, .int x2)] [] sv vi0 vl0 := by
  intro F
  induction F with
  | zero =>
    intro x1 x2  h
    cases (show (none : Option (Int32)) = some (r) from h)
  | succ F ih =>
    intro x1 x2  h
    rw [fX10_bitsOf_4] at h
    refine j_iload_n B dX10_bitsOf_4 rfl 1 rfl ?_
    refine j_if_eq (tgt := 20) B dX10_bitsOf_5 (by decide) (fun c => ?_) (fun c => ?_)
    · replace h := h_pos c h
      refine j_iload_n B dX10_bitsOf_20 rfl 0 rfl ?_
      have e1 := Option.some.inj h
      subst e1
      exact j_iret B E rfl dX10_bitsOf_21 (Nat.le_refl _) (Nat.le_refl _) ⟨rfl, rfl, rfl, rfl⟩
    · replace h := h_neg c h
      refine j_iinc (v := (x1 + 1)) (L' := [(1, .int (x1 + 1)), (2, .int x2)]) B dX10_bitsOf_8 0 rfl rfl (by decide) rfl ?_
      refine j_iload_n B dX10_bitsOf_11 rfl 1 rfl ?_
      refine j_iload_n B dX10_bitsOf_12 rfl 1 rfl ?_
      refine j_iconst B dX10_bitsOf_13 (v := 1) (by decide) ?_
      refine j_isub B dX10_bitsOf_14 ?_
      refine j_iand B dX10_bitsOf_15 ?_
      refine j_istore_n (L' := [(2, .int (x2 &&& (x2 - 1))), (1, .int (x1 + 1))]) B dX10_bitsOf_16 rfl (by decide) rfl ?_
      refine j_goto (tgt := 4) B dX10_bitsOf_17 (by decide) ?_
      refine j_locals [1, 0] rfl ?_
      exact ih ((x1 + 1)) ((x2 &&& (x2 - 1)))  h
def fX10_bitsOf (x0 : Int32)  : Option (Int32) := fX10_bitsOf_4  FU 0 x0
theorem tX10_bitsOf {G : GT} {sv : SV} {vi0 : VI} {vl0 : VL} {x0 : Int32} {r : Int32} (h : fX10_bitsOf x0 = some (r)) : Call G mX10_bitsOf 0 0 0 [.int x0] sv vi0 vl0 (QI r sv vi0 vl0) := by
  refine j_mk (by decide +kernel) (Nat.le_of_ble_eq_true rfl) (fun Γ B E => ?_)
  show J G Γ 0 0 0 [(0, .int x0)] [] sv vi0 vl0
  unfold fX10_bitsOf at h
  refine j_iconst B dX10_bitsOf_0 (v := 0) (by decide) ?_
  refine j_istore_n (L' := [(1, .int 0), (0, .int x0)]) B dX10_bitsOf_1 rfl (by decide) rfl ?_
  refine j_iload_n B dX10_bitsOf_2 rfl 1 rfl ?_
  refine j_istore_n (L' := [(2, .int x0), (1, .int 0), (0, .int x0)]) B dX10_bitsOf_3 rfl (by decide) rfl ?_
  refine j_locals [1, 0] rfl ?_
  exact tX10_bitsOf_4 B E  FU (0) (x0)  h
def fX10_isSill (x1 : Int32) (vi0 : VI) : Option (Bool) := (fX10_in x1 0 ((vi0 63 1) - 1)).bind fun r1 => some (r1)
theorem tX10_isSill {G : GT} {sv : SV} {vi0 : VI} {vl0 : VL} {ns : Nat} {x1 : Int32} {r : Bool} (hW : WF sv ns) (h : fX10_isSill x1 vi0 = some (r)) : Call G mX10_isSill 1 0 0 [.ref (G.1 + 63), .int x1] sv vi0 vl0 (QI (b2i r) sv vi0 vl0) := by
  refine j_mk (by decide +kernel) (Nat.le_of_ble_eq_true rfl) (fun Γ B E => ?_)
  show J G Γ 0 0 0 [(0, .ref (G.1 + 63)), (1, .int x1)] [] sv vi0 vl0
  unfold fX10_isSill at h
  refine j_iload_n B dX10_isSill_0 rfl 1 rfl ?_
  refine j_iconst B dX10_isSill_1 (v := 0) (by decide) ?_
  refine j_aload_n B dX10_isSill_2 rfl 0 rfl ?_
  refine gf_RX10_121 B rfl (wf_65 hW) dX10_isSill_3 ?_
  refine j_iconst B dX10_isSill_6 (v := 1) (by decide) ?_
  refine j_isub B dX10_isSill_7 ?_
  obtain ⟨r1, hr1, h⟩ := h_bind h
  refine j_cSI (rest := []) B (tX10_in hr1) jt_RX10_124 wst_X10_in rfl (by decide) (Nat.le_refl _) (Nat.le_refl _) rfl (Nat.le_of_ble_eq_true rfl) dX10_isSill_8 ?_
  have z9 := b2i_or r1
  have e1 := Option.some.inj h
  subst e1
  exact j_zret B E rfl z9 dX10_isSill_11 (Nat.le_refl _) (Nat.le_refl _) ⟨rfl, rfl, rfl, rfl⟩
def fX10_isPerson (x0 : Int32)  : Option (Bool) := (fX10_in x0 0 5).bind fun r1 => some (r1)
theorem tX10_isPerson {G : GT} {sv : SV} {vi0 : VI} {vl0 : VL} {x0 : Int32} {r : Bool} (h : fX10_isPerson x0 = some (r)) : Call G mX10_isPerson 1 0 0 [.int x0] sv vi0 vl0 (QI (b2i r) sv vi0 vl0) := by
  refine j_mk (by decide +kernel) (Nat.le_of_ble_eq_true rfl) (fun Γ B E => ?_)
  show J G Γ 0 0 0 [(0, .int x0)] [] sv vi0 vl0
  unfold fX10_isPerson at h
  refine j_iload_n B dX10_isPerson_0 rfl 0 rfl ?_
  refine j_iconst B dX10_isPerson_1 (v := 0) (by decide) ?_
  refine j_iconst B dX10_isPerson_2 (v := 5) (by decide) ?_
  obtain ⟨r1, hr1, h⟩ := h_bind h
  refine j_cSI (rest := []) B (tX10_in hr1) jt_RX10_124 wst_X10_in rfl (by decide) (Nat.le_refl _) (Nat.le_refl _) rfl (Nat.le_of_ble_eq_true rfl) dX10_isPerson_3 ?_
  have z9 := b2i_or r1
  have e1 := Option.some.inj h
  subst e1
  exact j_zret B E rfl z9 dX10_isPerson_6 (Nat.le_refl _) (Nat.le_refl _) ⟨rfl, rfl, rfl, rfl⟩
def fX10_addSill (x1 : Int32) (x2 : Int32) (vi0 : VI) : Option (Int32 × VI) := if inb (vi0 63 1) 5 = true then if inb ((j_up vi0 64 (vi0 63 1).toNatClampNeg x1) 63 1) 5 = true then if inb ((j_up (j_up vi0 64 (vi0 63 1).toNatClampNeg x1) 65 ((j_up vi0 64 (vi0 63 1).toNatClampNeg x1) 63 1).toNatClampNeg x2) 63 1) 5 = true then some ((((j_up (j_up (j_up (j_up vi0 64 (vi0 63 1).toNatClampNeg x1) 65 ((j_up vi0 64 (vi0 63 1).toNatClampNeg x1) 63 1).toNatClampNeg x2) 67 ((j_up (j_up vi0 64 (vi0 63 1).toNatClampNeg x1) 65 ((j_up vi0 64 (vi0 63 1).toNatClampNeg x1) 63 1).toNatClampNeg x2) 63 1).toNatClampNeg 0) 63 1 (((j_up (j_up (j_up vi0 64 (vi0 63 1).toNatClampNeg x1) 65 ((j_up vi0 64 (vi0 63 1).toNatClampNeg x1) 63 1).toNatClampNeg x2) 67 ((j_up (j_up vi0 64 (vi0 63 1).toNatClampNeg x1) 65 ((j_up vi0 64 (vi0 63 1).toNatClampNeg x1) 63 1).toNatClampNeg x2) 63 1).toNatClampNeg 0) 63 1) + 1)) 63 1) - 1), (j_up (j_up (j_up (j_up vi0 64 (vi0 63 1).toNatClampNeg x1) 65 ((j_up vi0 64 (vi0 63 1).toNatClampNeg x1) 63 1).toNatClampNeg x2) 67 ((j_up (j_up vi0 64 (vi0 63 1).toNatClampNeg x1) 65 ((j_up vi0 64 (vi0 63 1).toNatClampNeg x1) 63 1).toNatClampNeg x2) 63 1).toNatClampNeg 0) 63 1 (((j_up (j_up (j_up vi0 64 (vi0 63 1).toNatClampNeg x1) 65 ((j_up vi0 64 (vi0 63 1).toNatClampNeg x1) 63 1).toNatClampNeg x2) 67 ((j_up (j_up vi0 64 (vi0 63 1).toNatClampNeg x1) 65 ((j_up vi0 64 (vi0 63 1).toNatClampNeg x1) 63 1).toNatClampNeg x2) 63 1).toNatClampNeg 0) 63 1) + 1))) else none else none else none
theorem tX10_addSill {G : GT} {sv : SV} {vi0 : VI} {vl0 : VL} {ns : Nat} {x1 : Int32} {x2 : Int32} {r : Int32} {vi' : VI} (hW : WF sv ns) (h : fX10_addSill x1 x2 vi0 = some (r, vi')) : Call G mX10_addSill 0 0 0 [.ref (G.1 + 63), .int x1, .int x2] sv vi0 vl0 (QI r sv vi' vl0) := by
  refine j_mk (by decide +kernel) (Nat.le_of_ble_eq_true rfl) (fun Γ B E => ?_)
  show J G Γ 0 0 0 [(0, .ref (G.1 + 63)), (1, .int x1), (2, .int x2)] [] sv vi0 vl0
  unfold fX10_addSill at h
  refine j_aload_n B dX10_addSill_0 rfl 0 rfl ?_
  refine gf_RX10_9 B rfl (wf_65 hW) (wf_162 hW) dX10_addSill_1 ?_
  refine j_aload_n B dX10_addSill_4 rfl 0 rfl ?_
  refine gf_RX10_121 B rfl (wf_65 hW) dX10_addSill_5 ?_
  refine j_iload_n B dX10_addSill_8 rfl 1 rfl ?_
  obtain ⟨b1, h⟩ := h_inb h
  refine j_iast B ((wf_66 hW)) b1 dX10_addSill_9 ?_
  refine j_aload_n B dX10_addSill_10 rfl 0 rfl ?_
  refine gf_RX10_15 B rfl (wf_65 hW) (wf_163 hW) dX10_addSill_11 ?_
  refine j_aload_n B dX10_addSill_14 rfl 0 rfl ?_
  refine gf_RX10_121 B rfl (wf_65 hW) dX10_addSill_15 ?_
  refine j_iload_n B dX10_addSill_18 rfl 2 rfl ?_
  obtain ⟨b2, h⟩ := h_inb h
  refine j_iast B ((wf_67 hW)) b2 dX10_addSill_19 ?_
  refine j_aload_n B dX10_addSill_20 rfl 0 rfl ?_
  refine gf_RX10_21 B rfl (wf_65 hW) (wf_165 hW) dX10_addSill_21 ?_
  refine j_aload_n B dX10_addSill_24 rfl 0 rfl ?_
  refine gf_RX10_121 B rfl (wf_65 hW) dX10_addSill_25 ?_
  refine j_iconst B dX10_addSill_28 (v := 0) (by decide) ?_
  obtain ⟨b3, h⟩ := h_inb h
  refine j_iast B ((wf_69 hW)) b3 dX10_addSill_29 ?_
  refine j_aload_n B dX10_addSill_30 rfl 0 rfl ?_
  refine j_dup B dX10_addSill_31 rfl ?_
  refine gf_RX10_121 B rfl (wf_65 hW) dX10_addSill_32 ?_
  refine j_iconst B dX10_addSill_35 (v := 1) (by decide) ?_
  refine j_iadd B dX10_addSill_36 ?_
  refine pf_RX10_121 B rfl (wf_65 hW) dX10_addSill_37 ?_
  refine j_aload_n B dX10_addSill_40 rfl 0 rfl ?_
  refine gf_RX10_121 B rfl (wf_65 hW) dX10_addSill_41 ?_
  refine j_iconst B dX10_addSill_44 (v := 1) (by decide) ?_
  refine j_isub B dX10_addSill_45 ?_
  obtain ⟨e1, e2⟩ := Prod.mk.inj (Option.some.inj h)
  subst e1
  subst e2
  exact j_iret B E rfl dX10_addSill_46 (Nat.le_refl _) (Nat.le_refl _) ⟨rfl, rfl, rfl, rfl⟩
def fX10_sill (x1 : Int32) (x2 : Int32) (vi0 : VI) : Option (Int32 × VI) := (fX10_in x1 0 9).bind fun r1 => if r1 = true then (fX10_in x2 0 9).bind fun r2 => if r2 = true then if (vi0 63 1) = 5 then some ((-3), vi0) else (fX10_addSill x1 x2 vi0).bind fun r3 => some (r3.1, r3.2) else some ((-1), vi0) else some ((-1), vi0)
theorem tX10_sill {G : GT} {sv : SV} {vi0 : VI} {vl0 : VL} {ns : Nat} {x1 : Int32} {x2 : Int32} {r : Int32} {vi' : VI} (hW : WF sv ns) (h : fX10_sill x1 x2 vi0 = some (r, vi')) : Call G mX10_sill 1 0 0 [.ref (G.1 + 63), .int x1, .int x2] sv vi0 vl0 (QI r sv vi' vl0) := by
  refine j_mk (by decide +kernel) (Nat.le_of_ble_eq_true rfl) (fun Γ B E => ?_)
  show J G Γ 0 0 0 [(0, .ref (G.1 + 63)), (1, .int x1), (2, .int x2)] [] sv vi0 vl0
  unfold fX10_sill at h
  refine j_iload_n B dX10_sill_0 rfl 1 rfl ?_
  refine j_iconst B dX10_sill_1 (v := 0) (by decide) ?_
  refine j_bipush B dX10_sill_2 (v := 9) (by decide) ?_
  obtain ⟨r1, hr1, h⟩ := h_bind h
  refine j_cSI (rest := []) B (tX10_in hr1) jt_RX10_124 wst_X10_in rfl (by decide) (Nat.le_refl _) (Nat.le_refl _) rfl (Nat.le_of_ble_eq_true rfl) dX10_sill_4 ?_
  refine j_if_eq (tgt := 20) B dX10_sill_7 (by decide) (fun c => ?_) (fun c => ?_)
  · replace h := h_neg (b2i_0 c) h
    refine j_iconst B dX10_sill_20 (v := (-1)) (by decide) ?_
    obtain ⟨e1, e2⟩ := Prod.mk.inj (Option.some.inj h)
    subst e1
    subst e2
    exact j_iret B E rfl dX10_sill_21 (Nat.le_refl _) (Nat.le_refl _) ⟨rfl, rfl, rfl, rfl⟩
  · replace h := h_pos (b2i_1 c) h
    refine j_iload_n B dX10_sill_10 rfl 2 rfl ?_
    refine j_iconst B dX10_sill_11 (v := 0) (by decide) ?_
    refine j_bipush B dX10_sill_12 (v := 9) (by decide) ?_
    obtain ⟨r2, hr2, h⟩ := h_bind h
    refine j_cSI (rest := []) B (tX10_in hr2) jt_RX10_124 wst_X10_in rfl (by decide) (Nat.le_refl _) (Nat.le_refl _) rfl (Nat.le_of_ble_eq_true rfl) dX10_sill_14 ?_
    refine j_if_ne (tgt := 22) B dX10_sill_17 (by decide) (fun c => ?_) (fun c => ?_)
    · replace h := h_pos (b2i_1 c) h
      refine j_aload_n B dX10_sill_22 rfl 0 rfl ?_
      refine gf_RX10_121 B rfl (wf_65 hW) dX10_sill_23 ?_
      refine j_iconst B dX10_sill_26 (v := 5) (by decide) ?_
      refine j_icmp_ne (tgt := 35) B dX10_sill_27 (by decide) (fun c => ?_) (fun c => ?_)
      · replace h := h_neg c h
        refine j_aload_n B dX10_sill_35 rfl 0 rfl ?_
        refine j_iload_n B dX10_sill_36 rfl 1 rfl ?_
        refine j_iload_n B dX10_sill_37 rfl 2 rfl ?_
        obtain ⟨r3, hr3, h⟩ := h_bind h
        refine j_cVI (rest := []) B (tX10_addSill hW hr3) cls10 (wf_65 hW) jt_RX10_128 wi_X10_addSill ws_X10_addSill rfl (by decide) (Nat.le_refl _) (Nat.le_refl _) rfl (Nat.le_of_ble_eq_true rfl) dX10_sill_38 ?_
        obtain ⟨e1, e2⟩ := Prod.mk.inj (Option.some.inj h)
        subst e1
        subst e2
        exact j_iret B E rfl dX10_sill_41 (Nat.le_refl _) (Nat.le_refl _) ⟨rfl, rfl, rfl, rfl⟩
      · replace h := h_pos c h
        refine j_bipush B dX10_sill_30 (v := (-3)) (by decide) ?_
        refine j_goto (tgt := 41) B dX10_sill_32 (by decide) ?_
        obtain ⟨e1, e2⟩ := Prod.mk.inj (Option.some.inj h)
        subst e1
        subst e2
        exact j_iret B E rfl dX10_sill_41 (Nat.le_refl _) (Nat.le_refl _) ⟨rfl, rfl, rfl, rfl⟩
    · replace h := h_neg (b2i_0 c) h
      refine j_iconst B dX10_sill_20 (v := (-1)) (by decide) ?_
      obtain ⟨e1, e2⟩ := Prod.mk.inj (Option.some.inj h)
      subst e1
      subst e2
      exact j_iret B E rfl dX10_sill_21 (Nat.le_refl _) (Nat.le_refl _) ⟨rfl, rfl, rfl, rfl⟩
def fX10_isShelf (x0 : Int32)  : Option (Bool) := (fX10_in x0 0 5).bind fun r1 => some (r1)
theorem tX10_isShelf {G : GT} {sv : SV} {vi0 : VI} {vl0 : VL} {x0 : Int32} {r : Bool} (h : fX10_isShelf x0 = some (r)) : Call G mX10_isShelf 1 0 0 [.int x0] sv vi0 vl0 (QI (b2i r) sv vi0 vl0) := by
  refine j_mk (by decide +kernel) (Nat.le_of_ble_eq_true rfl) (fun Γ B E => ?_)
  show J G Γ 0 0 0 [(0, .int x0)] [] sv vi0 vl0
  unfold fX10_isShelf at h
  refine j_iload_n B dX10_isShelf_0 rfl 0 rfl ?_
  refine j_iconst B dX10_isShelf_1 (v := 0) (by decide) ?_
  refine j_iconst B dX10_isShelf_2 (v := 5) (by decide) ?_
  obtain ⟨r1, hr1, h⟩ := h_bind h
  refine j_cSI (rest := []) B (tX10_in hr1) jt_RX10_124 wst_X10_in rfl (by decide) (Nat.le_refl _) (Nat.le_refl _) rfl (Nat.le_of_ble_eq_true rfl) dX10_isShelf_3 ?_
  have z9 := b2i_or r1
  have e1 := Option.some.inj h
  subst e1
  exact j_zret B E rfl z9 dX10_isShelf_6 (Nat.le_refl _) (Nat.le_refl _) ⟨rfl, rfl, rfl, rfl⟩
def fX10_sills_57 (vl0 : VL) : Nat → Int32 → Int32 → Int32 → Int32 → VI → Option (Int32 × VI)
  | 0, _, _, _, _, _ => none
  | F + 1, x1, x2, x3, x4, vi => if x3 ≤ x4 then some (x3, vi) else if (lg_cmp (x2.toInt64 + (2 * x4).toInt64) 0) < 0 then some (x4, vi) else if inb x1 6 = true then if 0 ≤ (lg_cmp ((x2.toInt64 + (2 * x4).toInt64) + 1) (vi 95 x1.toNatClampNeg).toInt64) then some (x4, vi) else if (vi 63 1) = 5 then some (x4, vi) else if inb ((60 * x1) + (x2.toInt64 + (2 * x4).toInt64).toInt32) 360 = true then (fX10_in (vl0 96 ((60 * x1) + (x2.toInt64 + (2 * x4).toInt64).toInt32).toNatClampNeg).toInt32 0 9).bind fun r7 => if r7 = true then if inb (((60 * x1) + (x2.toInt64 + (2 * x4).toInt64).toInt32) + 1) 360 = true then (fX10_in (vl0 96 (((60 * x1) + (x2.toInt64 + (2 * x4).toInt64).toInt32) + 1).toNatClampNeg).toInt32 0 9).bind fun r9 => if r9 = true then if inb ((60 * x1) + (x2.toInt64 + (2 * x4).toInt64).toInt32) 360 = true then if inb (((60 * x1) + (x2.toInt64 + (2 * x4).toInt64).toInt32) + 1) 360 = true then (fX10_addSill (vl0 96 ((60 * x1) + (x2.toInt64 + (2 * x4).toInt64).toInt32).toNatClampNeg).toInt32 (vl0 96 (((60 * x1) + (x2.toInt64 + (2 * x4).toInt64).toInt32) + 1).toNatClampNeg).toInt32 vi).bind fun r12 => fX10_sills_57 vl0 F x1 x2 x3 (x4 + 1) r12.2 else none else none else some (x4, vi) else none else some (x4, vi) else none else none
theorem tX10_sills_57 {G : GT} {sv : SV} {vl0 : VL} {ns : Nat} {Γ : CT} {r : Int32} {vi' : VI} (B : Base G Γ mX10_sills 2 0 0) (E : Ends G Γ 0 0 (QI r sv vi' vl0)) (hW : WF sv ns) : ∀ (F : Nat) (x1 : Int32) (x2 : Int32) (x3 : Int32) (x4 : Int32) (vi : VI), fX10_sills_57 vl0 F x1 x2 x3 x4 vi = some (r, vi') → J G Γ 0 0 57 [(0, .ref (G.1 + 63)), (1, .int x1), (2, .int x2), (3, .int x3), (4, .int x4)] [] sv vi vl0 := by
  intro F
  induction F with
  | zero =>
    intro x1 x2 x3 x4 vi  h
    cases (show (none : Option (Int32 × VI)) = some (r, vi') from h)
  | succ F ih =>
    intro x1 x2 x3 x4 vi  h
    rw [fX10_sills_57] at h
    refine j_iload B dX10_sills_57 4 rfl ?_
    refine j_iload_n B dX10_sills_59 rfl 3 rfl ?_
    refine j_icmp_ge (tgt := 184) B dX10_sills_60 (by decide) (fun c => ?_) (fun c => ?_)
    · replace h := h_pos c h
      refine j_iload_n B dX10_sills_184 rfl 3 rfl ?_
      obtain ⟨e1, e2⟩ := Prod.mk.inj (Option.some.inj h)
      subst e1
      subst e2
      exact j_iret B E rfl dX10_sills_185 (Nat.le_refl _) (Nat.le_refl _) ⟨rfl, rfl, rfl, rfl⟩
    · replace h := h_neg c h
      refine j_iload_n B dX10_sills_63 rfl 2 rfl ?_
      refine j_i2l B dX10_sills_64 ?_
      refine j_iconst B dX10_sills_65 (v := 2) (by decide) ?_
      refine j_iload B dX10_sills_66 4 rfl ?_
      refine j_imul B dX10_sills_68 ?_
      refine j_i2l B dX10_sills_69 ?_
      refine j_ladd B dX10_sills_70 ?_
      refine j_lstore (L' := [(5, .long (x2.toInt64 + (2 * x4).toInt64)), (0, .ref (G.1 + 63)), (1, .int x1), (2, .int x2), (3, .int x3), (4, .int x4)]) B dX10_sills_71 (by decide) rfl ?_
      refine j_lload B dX10_sills_73 0 rfl ?_
      refine j_lconst B dX10_sills_75 (v := 0) rfl ?_
      refine j_lcmp B dX10_sills_76 ?_
      refine j_if_lt (tgt := 103) B dX10_sills_77 (by decide) (fun c => ?_) (fun c => ?_)
      · replace h := h_pos c h
        refine j_iload B dX10_sills_103 5 rfl ?_
        obtain ⟨e1, e2⟩ := Prod.mk.inj (Option.some.inj h)
        subst e1
        subst e2
        exact j_iret B E rfl dX10_sills_105 (Nat.le_refl _) (Nat.le_refl _) ⟨rfl, rfl, rfl, rfl⟩
      · replace h := h_neg c h
        refine j_lload B dX10_sills_80 0 rfl ?_
        refine j_lconst B dX10_sills_82 (v := 1) rfl ?_
        refine j_ladd B dX10_sills_83 ?_
        refine j_aload_n B dX10_sills_84 rfl 1 rfl ?_
        refine gf_RX10_108 B rfl (wf_65 hW) (wf_193 hW) dX10_sills_85 ?_
        refine j_iload_n B dX10_sills_88 rfl 2 rfl ?_
        obtain ⟨b5, h⟩ := h_inb h
        refine j_iald B ((wf_97 hW)) b5 dX10_sills_89 ?_
        refine j_i2l B dX10_sills_90 ?_
        refine j_lcmp B dX10_sills_91 ?_
        refine j_if_ge (tgt := 103) B dX10_sills_92 (by decide) (fun c => ?_) (fun c => ?_)
        · replace h := h_pos c h
          refine j_iload B dX10_sills_103 5 rfl ?_
          obtain ⟨e1, e2⟩ := Prod.mk.inj (Option.some.inj h)
          subst e1
          subst e2
          exact j_iret B E rfl dX10_sills_105 (Nat.le_refl _) (Nat.le_refl _) ⟨rfl, rfl, rfl, rfl⟩
        · replace h := h_neg c h
          refine j_aload_n B dX10_sills_95 rfl 1 rfl ?_
          refine gf_RX10_121 B rfl (wf_65 hW) dX10_sills_96 ?_
          refine j_iconst B dX10_sills_99 (v := 5) (by decide) ?_
          refine j_icmp_ne (tgt := 106) B dX10_sills_100 (by decide) (fun c => ?_) (fun c => ?_)
          · replace h := h_neg c h
            refine j_bipush B dX10_sills_106 (v := 60) (by decide) ?_
            refine j_iload_n B dX10_sills_108 rfl 2 rfl ?_
            refine j_imul B dX10_sills_109 ?_
            refine j_lload B dX10_sills_110 0 rfl ?_
            refine j_l2i B dX10_sills_112 ?_
            refine j_iadd B dX10_sills_113 ?_
            refine j_istore (L' := [(7, .int ((60 * x1) + (x2.toInt64 + (2 * x4).toInt64).toInt32)), (5, .long (x2.toInt64 + (2 * x4).toInt64)), (0, .ref (G.1 + 63)), (1, .int x1), (2, .int x2), (3, .int x3), (4, .int x4)]) B dX10_sills_114 (by decide) rfl ?_
            refine j_aload_n B dX10_sills_116 rfl 2 rfl ?_
            refine gf_RX10_111 B rfl (wf_65 hW) (wf_194 hW) dX10_sills_117 ?_
            refine j_iload B dX10_sills_120 0 rfl ?_
            obtain ⟨b6, h⟩ := h_inb h
            refine j_lald B ((wf_98 hW)) b6 dX10_sills_122 ?_
            refine j_l2i B dX10_sills_123 ?_
            refine j_iconst B dX10_sills_124 (v := 0) (by decide) ?_
            refine j_bipush B dX10_sills_125 (v := 9) (by decide) ?_
            obtain ⟨r7, hr7, h⟩ := h_bind h
            refine j_cSI (rest := []) B (tX10_in hr7) jt_RX10_124 wst_X10_in rfl (by decide) (Nat.le_refl _) (Nat.le_refl _) rfl (Nat.le_of_ble_eq_true rfl) dX10_sills_127 ?_
            refine j_if_eq (tgt := 152) B dX10_sills_130 (by decide) (fun c => ?_) (fun c => ?_)
            · replace h := h_neg (b2i_0 c) h
              refine j_iload B dX10_sills_152 6 rfl ?_
              obtain ⟨e1, e2⟩ := Prod.mk.inj (Option.some.inj h)
              subst e1
              subst e2
              exact j_iret B E rfl dX10_sills_154 (Nat.le_refl _) (Nat.le_refl _) ⟨rfl, rfl, rfl, rfl⟩
            · replace h := h_pos (b2i_1 c) h
              refine j_aload_n B dX10_sills_133 rfl 2 rfl ?_
              refine gf_RX10_111 B rfl (wf_65 hW) (wf_194 hW) dX10_sills_134 ?_
              refine j_iload B dX10_sills_137 0 rfl ?_
              refine j_iconst B dX10_sills_139 (v := 1) (by decide) ?_
              refine j_iadd B dX10_sills_140 ?_
              obtain ⟨b8, h⟩ := h_inb h
              refine j_lald B ((wf_98 hW)) b8 dX10_sills_141 ?_
              refine j_l2i B dX10_sills_142 ?_
              refine j_iconst B dX10_sills_143 (v := 0) (by decide) ?_
              refine j_bipush B dX10_sills_144 (v := 9) (by decide) ?_
              obtain ⟨r9, hr9, h⟩ := h_bind h
              refine j_cSI (rest := []) B (tX10_in hr9) jt_RX10_124 wst_X10_in rfl (by decide) (Nat.le_refl _) (Nat.le_refl _) rfl (Nat.le_of_ble_eq_true rfl) dX10_sills_146 ?_
              refine j_if_ne (tgt := 155) B dX10_sills_149 (by decide) (fun c => ?_) (fun c => ?_)
              · replace h := h_pos (b2i_1 c) h
                refine j_aload_n B dX10_sills_155 rfl 2 rfl ?_
                refine j_aload_n B dX10_sills_156 rfl 2 rfl ?_
                refine gf_RX10_111 B rfl (wf_65 hW) (wf_194 hW) dX10_sills_157 ?_
                refine j_iload B dX10_sills_160 0 rfl ?_
                obtain ⟨b10, h⟩ := h_inb h
                refine j_lald B ((wf_98 hW)) b10 dX10_sills_162 ?_
                refine j_l2i B dX10_sills_163 ?_
                refine j_aload_n B dX10_sills_164 rfl 2 rfl ?_
                refine gf_RX10_111 B rfl (wf_65 hW) (wf_194 hW) dX10_sills_165 ?_
                refine j_iload B dX10_sills_168 0 rfl ?_
                refine j_iconst B dX10_sills_170 (v := 1) (by decide) ?_
                refine j_iadd B dX10_sills_171 ?_
                obtain ⟨b11, h⟩ := h_inb h
                refine j_lald B ((wf_98 hW)) b11 dX10_sills_172 ?_
                refine j_l2i B dX10_sills_173 ?_
                obtain ⟨r12, hr12, h⟩ := h_bind h
                refine j_cVI (rest := []) B (tX10_addSill hW hr12) cls10 (wf_65 hW) jt_RX10_128 wi_X10_addSill ws_X10_addSill rfl (by decide) (Nat.le_refl _) (Nat.le_refl _) rfl (Nat.le_of_ble_eq_true rfl) dX10_sills_174 ?_
                refine j_pop B dX10_sills_177 rfl ?_
                refine j_iinc (v := (x4 + 1)) (L' := [(4, .int (x4 + 1)), (7, .int ((60 * x1) + (x2.toInt64 + (2 * x4).toInt64).toInt32)), (5, .long (x2.toInt64 + (2 * x4).toInt64)), (0, .ref (G.1 + 63)), (1, .int x1), (2, .int x2), (3, .int x3)]) B dX10_sills_178 6 rfl rfl (by decide) rfl ?_
                refine j_goto (tgt := 57) B dX10_sills_181 (by decide) ?_
                refine j_locals [3, 4, 5, 6, 0] rfl ?_
                exact ih (x1) (x2) (x3) ((x4 + 1)) (r12.2)  h
              · replace h := h_neg (b2i_0 c) h
                refine j_iload B dX10_sills_152 6 rfl ?_
                obtain ⟨e1, e2⟩ := Prod.mk.inj (Option.some.inj h)
                subst e1
                subst e2
                exact j_iret B E rfl dX10_sills_154 (Nat.le_refl _) (Nat.le_refl _) ⟨rfl, rfl, rfl, rfl⟩
          · replace h := h_pos c h
            refine j_iload B dX10_sills_103 5 rfl ?_
            obtain ⟨e1, e2⟩ := Prod.mk.inj (Option.some.inj h)
            subst e1
            subst e2
            exact j_iret B E rfl dX10_sills_105 (Nat.le_refl _) (Nat.le_refl _) ⟨rfl, rfl, rfl, rfl⟩
def fX10_sills_42 (vl0 : VL) (x1 : Int32) (x2 : Int32) (x3 : Int32) (vi : VI) : Option (Int32 × VI) := if inb x1 6 = true then if (vi 94 x1.toNatClampNeg) = (-1) then some (0, vi) else fX10_sills_57 vl0 FU x1 x2 x3 0 vi else none
theorem tX10_sills_42 {G : GT} {sv : SV} {vl0 : VL} {ns : Nat} {Γ : CT} {r : Int32} {vi' : VI} (B : Base G Γ mX10_sills 2 0 0) (E : Ends G Γ 0 0 (QI r sv vi' vl0)) (hW : WF sv ns) : ∀ (x1 : Int32) (x2 : Int32) (x3 : Int32) (vi : VI), fX10_sills_42 vl0 x1 x2 x3 vi = some (r, vi') → J G Γ 0 0 42 [(0, .ref (G.1 + 63)), (1, .int x1), (2, .int x2), (3, .int x3)] [] sv vi vl0 := by
  intro x1 x2 x3 vi  h
  unfold fX10_sills_42 at h
  refine j_aload_n B dX10_sills_42 rfl 0 rfl ?_
  refine gf_RX10_105 B rfl (wf_65 hW) (wf_192 hW) dX10_sills_43 ?_
  refine j_iload_n B dX10_sills_46 rfl 1 rfl ?_
  obtain ⟨b4, h⟩ := h_inb h
  refine j_iald B ((wf_96 hW)) b4 dX10_sills_47 ?_
  refine j_iconst B dX10_sills_48 (v := (-1)) (by decide) ?_
  refine j_icmp_ne (tgt := 54) B dX10_sills_49 (by decide) (fun c => ?_) (fun c => ?_)
  · replace h := h_neg c h
    refine j_iconst B dX10_sills_54 (v := 0) (by decide) ?_
    refine j_istore (L' := [(4, .int 0), (0, .ref (G.1 + 63)), (1, .int x1), (2, .int x2), (3, .int x3)]) B dX10_sills_55 (by decide) rfl ?_
    refine j_locals [1, 2, 3, 4, 0] rfl ?_
    exact tX10_sills_57 B E hW FU (x1) (x2) (x3) (0) (vi)  h
  · replace h := h_pos c h
    refine j_iconst B dX10_sills_52 (v := 0) (by decide) ?_
    obtain ⟨e1, e2⟩ := Prod.mk.inj (Option.some.inj h)
    subst e1
    subst e2
    exact j_iret B E rfl dX10_sills_53 (Nat.le_refl _) (Nat.le_refl _) ⟨rfl, rfl, rfl, rfl⟩
def fX10_sills (x1 : Int32) (x2 : Int32) (x3 : Int32) (vi0 : VI) (vl0 : VL) : Option (Int32 × VI) := (fX10_isShelf x1).bind fun r1 => if r1 = true then (fX10_in x3 1 5).bind fun r2 => if r2 = true then if inb x1 6 = true then if (vi0 94 x1.toNatClampNeg) = (-1) then fX10_sills_42 vl0 x1 x2 x3 vi0 else if inb x1 6 = true then if (vi0 94 x1.toNatClampNeg) = (-2) then fX10_sills_42 vl0 x1 x2 x3 vi0 else some ((-12), vi0) else none else none else some ((-1), vi0) else some ((-1), vi0)
theorem tX10_sills {G : GT} {sv : SV} {vi0 : VI} {vl0 : VL} {ns : Nat} {x1 : Int32} {x2 : Int32} {x3 : Int32} {r : Int32} {vi' : VI} (hW : WF sv ns) (h : fX10_sills x1 x2 x3 vi0 vl0 = some (r, vi')) : Call G mX10_sills 2 0 0 [.ref (G.1 + 63), .int x1, .int x2, .int x3] sv vi0 vl0 (QI r sv vi' vl0) := by
  refine j_mk (by decide +kernel) (Nat.le_of_ble_eq_true rfl) (fun Γ B E => ?_)
  show J G Γ 0 0 0 [(0, .ref (G.1 + 63)), (1, .int x1), (2, .int x2), (3, .int x3)] [] sv vi0 vl0
  unfold fX10_sills at h
  refine j_iload_n B dX10_sills_0 rfl 1 rfl ?_
  obtain ⟨r1, hr1, h⟩ := h_bind h
  refine j_cSI (rest := []) B (tX10_isShelf hr1) jt_RX10_132 wst_X10_isShelf rfl (by decide) (Nat.le_refl _) (Nat.le_refl _) rfl (Nat.le_of_ble_eq_true rfl) dX10_sills_1 ?_
  refine j_if_eq (tgt := 16) B dX10_sills_4 (by decide) (fun c => ?_) (fun c => ?_)
  · replace h := h_neg (b2i_0 c) h
    refine j_iconst B dX10_sills_16 (v := (-1)) (by decide) ?_
    obtain ⟨e1, e2⟩ := Prod.mk.inj (Option.some.inj h)
    subst e1
    subst e2
    exact j_iret B E rfl dX10_sills_17 (Nat.le_refl _) (Nat.le_refl _) ⟨rfl, rfl, rfl, rfl⟩
  · replace h := h_pos (b2i_1 c) h
    refine j_iload_n B dX10_sills_7 rfl 3 rfl ?_
    refine j_iconst B dX10_sills_8 (v := 1) (by decide) ?_
    refine j_iconst B dX10_sills_9 (v := 5) (by decide) ?_
    obtain ⟨r2, hr2, h⟩ := h_bind h
    refine j_cSI (rest := []) B (tX10_in hr2) jt_RX10_124 wst_X10_in rfl (by decide) (Nat.le_refl _) (Nat.le_refl _) rfl (Nat.le_of_ble_eq_true rfl) dX10_sills_10 ?_
    refine j_if_ne (tgt := 18) B dX10_sills_13 (by decide) (fun c => ?_) (fun c => ?_)
    · replace h := h_pos (b2i_1 c) h
      refine j_aload_n B dX10_sills_18 rfl 0 rfl ?_
      refine gf_RX10_105 B rfl (wf_65 hW) (wf_192 hW) dX10_sills_19 ?_
      refine j_iload_n B dX10_sills_22 rfl 1 rfl ?_
      obtain ⟨b3, h⟩ := h_inb h
      refine j_iald B ((wf_96 hW)) b3 dX10_sills_23 ?_
      refine j_iconst B dX10_sills_24 (v := (-1)) (by decide) ?_
      refine j_icmp_eq (tgt := 42) B dX10_sills_25 (by decide) (fun c => ?_) (fun c => ?_)
      · replace h := h_pos c h
        refine j_locals [0, 1, 2, 3] rfl ?_
        exact tX10_sills_42 B E hW (x1) (x2) (x3) (vi0)  h
      · replace h := h_neg c h
        refine j_aload_n B dX10_sills_28 rfl 0 rfl ?_
        refine gf_RX10_105 B rfl (wf_65 hW) (wf_192 hW) dX10_sills_29 ?_
        refine j_iload_n B dX10_sills_32 rfl 1 rfl ?_
        obtain ⟨b13, h⟩ := h_inb h
        refine j_iald B ((wf_96 hW)) b13 dX10_sills_33 ?_
        refine j_bipush B dX10_sills_34 (v := (-2)) (by decide) ?_
        refine j_icmp_eq (tgt := 42) B dX10_sills_36 (by decide) (fun c => ?_) (fun c => ?_)
        · replace h := h_pos c h
          refine j_locals [0, 1, 2, 3] rfl ?_
          exact tX10_sills_42 B E hW (x1) (x2) (x3) (vi0)  h
        · replace h := h_neg c h
          refine j_bipush B dX10_sills_39 (v := (-12)) (by decide) ?_
          obtain ⟨e1, e2⟩ := Prod.mk.inj (Option.some.inj h)
          subst e1
          subst e2
          exact j_iret B E rfl dX10_sills_41 (Nat.le_refl _) (Nat.le_refl _) ⟨rfl, rfl, rfl, rfl⟩
    · replace h := h_neg (b2i_0 c) h
      refine j_iconst B dX10_sills_16 (v := (-1)) (by decide) ?_
      obtain ⟨e1, e2⟩ := Prod.mk.inj (Option.some.inj h)
      subst e1
      subst e2
      exact j_iret B E rfl dX10_sills_17 (Nat.le_refl _) (Nat.le_refl _) ⟨rfl, rfl, rfl, rfl⟩
def fX10_valueAt (x1 : Int32) (x2 : Int32) (vi0 : VI) : Option (Int32) := if x1 = 0 then if inb x2 5 = true then some ((vi0 64 x2.toNatClampNeg)) else none else if x1 = 1 then if inb x2 5 = true then some ((vi0 65 x2.toNatClampNeg)) else none else if x1 = 2 then if inb x2 6 = true then some ((vi0 66 x2.toNatClampNeg)) else none else some ((vi0 63 5))
theorem tX10_valueAt {G : GT} {sv : SV} {vi0 : VI} {vl0 : VL} {ns : Nat} {x1 : Int32} {x2 : Int32} {r : Int32} (hW : WF sv ns) (h : fX10_valueAt x1 x2 vi0 = some (r)) : Call G mX10_valueAt 0 0 0 [.ref (G.1 + 63), .int x1, .int x2] sv vi0 vl0 (QI r sv vi0 vl0) := by
  refine j_mk (by decide +kernel) (Nat.le_of_ble_eq_true rfl) (fun Γ B E => ?_)
  show J G Γ 0 0 0 [(0, .ref (G.1 + 63)), (1, .int x1), (2, .int x2)] [] sv vi0 vl0
  unfold fX10_valueAt at h
  refine j_iload_n B dX10_valueAt_0 rfl 1 rfl ?_
  refine j_if_ne (tgt := 13) B dX10_valueAt_1 (by decide) (fun c => ?_) (fun c => ?_)
  · replace h := h_neg c h
    refine j_iload_n B dX10_valueAt_13 rfl 1 rfl ?_
    refine j_iconst B dX10_valueAt_14 (v := 1) (by decide) ?_
    refine j_icmp_ne (tgt := 27) B dX10_valueAt_15 (by decide) (fun c => ?_) (fun c => ?_)
    · replace h := h_neg c h
      refine j_iload_n B dX10_valueAt_27 rfl 1 rfl ?_
      refine j_iconst B dX10_valueAt_28 (v := 2) (by decide) ?_
      refine j_icmp_ne (tgt := 41) B dX10_valueAt_29 (by decide) (fun c => ?_) (fun c => ?_)
      · replace h := h_neg c h
        refine j_aload_n B dX10_valueAt_41 rfl 0 rfl ?_
        refine gf_RX10_136 B rfl (wf_65 hW) dX10_valueAt_42 ?_
        have e1 := Option.some.inj h
        subst e1
        exact j_iret B E rfl dX10_valueAt_45 (Nat.le_refl _) (Nat.le_refl _) ⟨rfl, rfl, rfl, rfl⟩
      · replace h := h_pos c h
        refine j_aload_n B dX10_valueAt_32 rfl 0 rfl ?_
        refine gf_RX10_18 B rfl (wf_65 hW) (wf_164 hW) dX10_valueAt_33 ?_
        refine j_iload_n B dX10_valueAt_36 rfl 2 rfl ?_
        obtain ⟨b1, h⟩ := h_inb h
        refine j_iald B ((wf_68 hW)) b1 dX10_valueAt_37 ?_
        refine j_goto (tgt := 45) B dX10_valueAt_38 (by decide) ?_
        have e1 := Option.some.inj h
        subst e1
        exact j_iret B E rfl dX10_valueAt_45 (Nat.le_refl _) (Nat.le_refl _) ⟨rfl, rfl, rfl, rfl⟩
    · replace h := h_pos c h
      refine j_aload_n B dX10_valueAt_18 rfl 0 rfl ?_
      refine gf_RX10_15 B rfl (wf_65 hW) (wf_163 hW) dX10_valueAt_19 ?_
      refine j_iload_n B dX10_valueAt_22 rfl 2 rfl ?_
      obtain ⟨b2, h⟩ := h_inb h
      refine j_iald B ((wf_67 hW)) b2 dX10_valueAt_23 ?_
      refine j_goto (tgt := 45) B dX10_valueAt_24 (by decide) ?_
      have e1 := Option.some.inj h
      subst e1
      exact j_iret B E rfl dX10_valueAt_45 (Nat.le_refl _) (Nat.le_refl _) ⟨rfl, rfl, rfl, rfl⟩
  · replace h := h_pos c h
    refine j_aload_n B dX10_valueAt_4 rfl 0 rfl ?_
    refine gf_RX10_9 B rfl (wf_65 hW) (wf_162 hW) dX10_valueAt_5 ?_
    refine j_iload_n B dX10_valueAt_8 rfl 2 rfl ?_
    obtain ⟨b3, h⟩ := h_inb h
    refine j_iald B ((wf_66 hW)) b3 dX10_valueAt_9 ?_
    refine j_goto (tgt := 45) B dX10_valueAt_10 (by decide) ?_
    have e1 := Option.some.inj h
    subst e1
    exact j_iret B E rfl dX10_valueAt_45 (Nat.le_refl _) (Nat.le_refl _) ⟨rfl, rfl, rfl, rfl⟩
def fX10_lays1 (x1 : Int32) (x2 : Int32) (x3 : Int32) (vi0 : VI) : Option (VI) := if x1 = 0 then if inb x2 5 = true then some ((j_up vi0 64 x2.toNatClampNeg x3)) else none else if x1 = 1 then if inb x2 5 = true then some ((j_up vi0 65 x2.toNatClampNeg x3)) else none else if x1 = 2 then if inb x2 6 = true then some ((j_up vi0 66 x2.toNatClampNeg x3)) else none else some ((j_up vi0 63 5 x3))
theorem tX10_lays1 {G : GT} {sv : SV} {vi0 : VI} {vl0 : VL} {ns : Nat} {x1 : Int32} {x2 : Int32} {x3 : Int32} {vi' : VI} (hW : WF sv ns) (h : fX10_lays1 x1 x2 x3 vi0 = some (vi')) : Call G mX10_lays1 0 0 0 [.ref (G.1 + 63), .int x1, .int x2, .int x3] sv vi0 vl0 (QV sv vi' vl0) := by
  refine j_mk (by decide +kernel) (Nat.le_of_ble_eq_true rfl) (fun Γ B E => ?_)
  show J G Γ 0 0 0 [(0, .ref (G.1 + 63)), (1, .int x1), (2, .int x2), (3, .int x3)] [] sv vi0 vl0
  unfold fX10_lays1 at h
  refine j_iload_n B dX10_lays1_0 rfl 1 rfl ?_
  refine j_if_ne (tgt := 14) B dX10_lays1_1 (by decide) (fun c => ?_) (fun c => ?_)
  · replace h := h_neg c h
    refine j_iload_n B dX10_lays1_14 rfl 1 rfl ?_
    refine j_iconst B dX10_lays1_15 (v := 1) (by decide) ?_
    refine j_icmp_ne (tgt := 29) B dX10_lays1_16 (by decide) (fun c => ?_) (fun c => ?_)
    · replace h := h_neg c h
      refine j_iload_n B dX10_lays1_29 rfl 1 rfl ?_
      refine j_iconst B dX10_lays1_30 (v := 2) (by decide) ?_
      refine j_icmp_ne (tgt := 44) B dX10_lays1_31 (by decide) (fun c => ?_) (fun c => ?_)
      · replace h := h_neg c h
        refine j_aload_n B dX10_lays1_44 rfl 0 rfl ?_
        refine j_iload_n B dX10_lays1_45 rfl 3 rfl ?_
        refine pf_RX10_136 B rfl (wf_65 hW) dX10_lays1_46 ?_
        have e1 := Option.some.inj h
        subst e1
        exact j_vret B E rfl dX10_lays1_49 (Nat.le_refl _) (Nat.le_refl _) ⟨rfl, rfl, rfl, rfl⟩
      · replace h := h_pos c h
        refine j_aload_n B dX10_lays1_34 rfl 0 rfl ?_
        refine gf_RX10_18 B rfl (wf_65 hW) (wf_164 hW) dX10_lays1_35 ?_
        refine j_iload_n B dX10_lays1_38 rfl 2 rfl ?_
        refine j_iload_n B dX10_lays1_39 rfl 3 rfl ?_
        obtain ⟨b1, h⟩ := h_inb h
        refine j_iast B ((wf_68 hW)) b1 dX10_lays1_40 ?_
        refine j_goto (tgt := 49) B dX10_lays1_41 (by decide) ?_
        have e1 := Option.some.inj h
        subst e1
        exact j_vret B E rfl dX10_lays1_49 (Nat.le_refl _) (Nat.le_refl _) ⟨rfl, rfl, rfl, rfl⟩
    · replace h := h_pos c h
      refine j_aload_n B dX10_lays1_19 rfl 0 rfl ?_
      refine gf_RX10_15 B rfl (wf_65 hW) (wf_163 hW) dX10_lays1_20 ?_
      refine j_iload_n B dX10_lays1_23 rfl 2 rfl ?_
      refine j_iload_n B dX10_lays1_24 rfl 3 rfl ?_
      obtain ⟨b2, h⟩ := h_inb h
      refine j_iast B ((wf_67 hW)) b2 dX10_lays1_25 ?_
      refine j_goto (tgt := 49) B dX10_lays1_26 (by decide) ?_
      have e1 := Option.some.inj h
      subst e1
      exact j_vret B E rfl dX10_lays1_49 (Nat.le_refl _) (Nat.le_refl _) ⟨rfl, rfl, rfl, rfl⟩
  · replace h := h_pos c h
    refine j_aload_n B dX10_lays1_4 rfl 0 rfl ?_
    refine gf_RX10_9 B rfl (wf_65 hW) (wf_162 hW) dX10_lays1_5 ?_
    refine j_iload_n B dX10_lays1_8 rfl 2 rfl ?_
    refine j_iload_n B dX10_lays1_9 rfl 3 rfl ?_
    obtain ⟨b3, h⟩ := h_inb h
    refine j_iast B ((wf_66 hW)) b3 dX10_lays1_10 ?_
    refine j_goto (tgt := 49) B dX10_lays1_11 (by decide) ?_
    have e1 := Option.some.inj h
    subst e1
    exact j_vret B E rfl dX10_lays1_49 (Nat.le_refl _) (Nat.le_refl _) ⟨rfl, rfl, rfl, rfl⟩
def fX10_changes_121  (x1 : Int32) (x2 : Int32) (x3 : Int32) (x4 : Int32) (vi : VI) : Option (Int32 × VI) := if inb (vi 63 9) 40 = true then if inb ((j_up vi 70 (vi 63 9).toNatClampNeg x1) 63 9) 40 = true then if inb ((j_up (j_up vi 70 (vi 63 9).toNatClampNeg x1) 71 ((j_up vi 70 (vi 63 9).toNatClampNeg x1) 63 9).toNatClampNeg x2) 63 9) 40 = true then if inb ((j_up (j_up (j_up vi 70 (vi 63 9).toNatClampNeg x1) 71 ((j_up vi 70 (vi 63 9).toNatClampNeg x1) 63 9).toNatClampNeg x2) 72 ((j_up (j_up vi 70 (vi 63 9).toNatClampNeg x1) 71 ((j_up vi 70 (vi 63 9).toNatClampNeg x1) 63 9).toNatClampNeg x2) 63 9).toNatClampNeg x4) 63 9) 40 = true then (fX10_lays1 x1 x2 x3 (j_up (j_up (j_up (j_up (j_up vi 70 (vi 63 9).toNatClampNeg x1) 71 ((j_up vi 70 (vi 63 9).toNatClampNeg x1) 63 9).toNatClampNeg x2) 72 ((j_up (j_up vi 70 (vi 63 9).toNatClampNeg x1) 71 ((j_up vi 70 (vi 63 9).toNatClampNeg x1) 63 9).toNatClampNeg x2) 63 9).toNatClampNeg x4) 73 ((j_up (j_up (j_up vi 70 (vi 63 9).toNatClampNeg x1) 71 ((j_up vi 70 (vi 63 9).toNatClampNeg x1) 63 9).toNatClampNeg x2) 72 ((j_up (j_up vi 70 (vi 63 9).toNatClampNeg x1) 71 ((j_up vi 70 (vi 63 9).toNatClampNeg x1) 63 9).toNatClampNeg x2) 63 9).toNatClampNeg x4) 63 9).toNatClampNeg x3) 63 9 (((j_up (j_up (j_up (j_up vi 70 (vi 63 9).toNatClampNeg x1) 71 ((j_up vi 70 (vi 63 9).toNatClampNeg x1) 63 9).toNatClampNeg x2) 72 ((j_up (j_up vi 70 (vi 63 9).toNatClampNeg x1) 71 ((j_up vi 70 (vi 63 9).toNatClampNeg x1) 63 9).toNatClampNeg x2) 63 9).toNatClampNeg x4) 73 ((j_up (j_up (j_up vi 70 (vi 63 9).toNatClampNeg x1) 71 ((j_up vi 70 (vi 63 9).toNatClampNeg x1) 63 9).toNatClampNeg x2) 72 ((j_up (j_up vi 70 (vi 63 9).toNatClampNeg x1) 71 ((j_up vi 70 (vi 63 9).toNatClampNeg x1) 63 9).toNatClampNeg x2) 63 9).toNatClampNeg x4) 63 9).toNatClampNeg x3) 63 9) + 1))).bind fun r6 => some (x4, r6) else none else none else none else none
theorem tX10_changes_121 {G : GT} {sv : SV} {vl0 : VL} {ns : Nat} {Γ : CT} {r : Int32} {vi' : VI} (B : Base G Γ mX10_changes 1 0 0) (E : Ends G Γ 0 0 (QI r sv vi' vl0)) (hW : WF sv ns) : ∀ (x1 : Int32) (x2 : Int32) (x3 : Int32) (x4 : Int32) (vi : VI), fX10_changes_121  x1 x2 x3 x4 vi = some (r, vi') → J G Γ 0 0 121 [(0, .ref (G.1 + 63)), (1, .int x1), (2, .int x2), (3, .int x3), (4, .int x4)] [] sv vi vl0 := by
  intro x1 x2 x3 x4 vi  h
  unfold fX10_changes_121 at h
  refine j_aload_n B dX10_changes_121 rfl 0 rfl ?_
  refine gf_RX10_30 B rfl (wf_65 hW) (wf_168 hW) dX10_changes_122 ?_
  refine j_aload_n B dX10_changes_125 rfl 0 rfl ?_
  refine gf_RX10_145 B rfl (wf_65 hW) dX10_changes_126 ?_
  refine j_iload_n B dX10_changes_129 rfl 1 rfl ?_
  obtain ⟨b2, h⟩ := h_inb h
  refine j_iast B ((wf_72 hW)) b2 dX10_changes_130 ?_
  refine j_aload_n B dX10_changes_131 rfl 0 rfl ?_
  refine gf_RX10_33 B rfl (wf_65 hW) (wf_169 hW) dX10_changes_132 ?_
  refine j_aload_n B dX10_changes_135 rfl 0 rfl ?_
  refine gf_RX10_145 B rfl (wf_65 hW) dX10_changes_136 ?_
  refine j_iload_n B dX10_changes_139 rfl 2 rfl ?_
  obtain ⟨b3, h⟩ := h_inb h
  refine j_iast B ((wf_73 hW)) b3 dX10_changes_140 ?_
  refine j_aload_n B dX10_changes_141 rfl 0 rfl ?_
  refine gf_RX10_36 B rfl (wf_65 hW) (wf_170 hW) dX10_changes_142 ?_
  refine j_aload_n B dX10_changes_145 rfl 0 rfl ?_
  refine gf_RX10_145 B rfl (wf_65 hW) dX10_changes_146 ?_
  refine j_iload B dX10_changes_149 4 rfl ?_
  obtain ⟨b4, h⟩ := h_inb h
  refine j_iast B ((wf_74 hW)) b4 dX10_changes_151 ?_
  refine j_aload_n B dX10_changes_152 rfl 0 rfl ?_
  refine gf_RX10_39 B rfl (wf_65 hW) (wf_171 hW) dX10_changes_153 ?_
  refine j_aload_n B dX10_changes_156 rfl 0 rfl ?_
  refine gf_RX10_145 B rfl (wf_65 hW) dX10_changes_157 ?_
  refine j_iload_n B dX10_changes_160 rfl 3 rfl ?_
  obtain ⟨b5, h⟩ := h_inb h
  refine j_iast B ((wf_75 hW)) b5 dX10_changes_161 ?_
  refine j_aload_n B dX10_changes_162 rfl 0 rfl ?_
  refine j_dup B dX10_changes_163 rfl ?_
  refine gf_RX10_145 B rfl (wf_65 hW) dX10_changes_164 ?_
  refine j_iconst B dX10_changes_167 (v := 1) (by decide) ?_
  refine j_iadd B dX10_changes_168 ?_
  refine pf_RX10_145 B rfl (wf_65 hW) dX10_changes_169 ?_
  refine j_aload_n B dX10_changes_172 rfl 0 rfl ?_
  refine j_iload_n B dX10_changes_173 rfl 1 rfl ?_
  refine j_iload_n B dX10_changes_174 rfl 2 rfl ?_
  refine j_iload_n B dX10_changes_175 rfl 3 rfl ?_
  obtain ⟨r6, hr6, h⟩ := h_bind h
  refine j_cVV (rest := []) B (tX10_lays1 hW hr6) cls10 (wf_65 hW) jt_RX10_148 wi_X10_lays1 ws_X10_lays1 rfl (by decide) (Nat.le_refl _) (Nat.le_refl _) rfl (Nat.le_of_ble_eq_true rfl) dX10_changes_176 ?_
  refine j_iload B dX10_changes_179 4 rfl ?_
  obtain ⟨e1, e2⟩ := Prod.mk.inj (Option.some.inj h)
  subst e1
  subst e2
  exact j_iret B E rfl dX10_changes_181 (Nat.le_refl _) (Nat.le_refl _) ⟨rfl, rfl, rfl, rfl⟩
def fX10_changes_34  : Nat → Int32 → Int32 → Int32 → Int32 → Int32 → VI → Option (Int32 × VI)
  | 0, _, _, _, _, _, _ => none
  | F + 1, x1, x2, x3, x4, x5, vi => if 40 ≤ x5 then fX10_changes_121  x1 x2 x3 x4 (j_up vi 63 9 ((vi 63 9) - 1)) else if inb x5 40 = true then if inb (x5 - 1) 40 = true then if inb x5 40 = true then if inb (x5 - 1) 40 = true then if inb x5 40 = true then if inb (x5 - 1) 40 = true then if inb x5 40 = true then if inb (x5 - 1) 40 = true then fX10_changes_34  F x1 x2 x3 x4 (x5 + 1) (j_up (j_up (j_up (j_up vi 70 (x5 - 1).toNatClampNeg (vi 70 x5.toNatClampNeg)) 71 (x5 - 1).toNatClampNeg ((j_up vi 70 (x5 - 1).toNatClampNeg (vi 70 x5.toNatClampNeg)) 71 x5.toNatClampNeg)) 72 (x5 - 1).toNatClampNeg ((j_up (j_up vi 70 (x5 - 1).toNatClampNeg (vi 70 x5.toNatClampNeg)) 71 (x5 - 1).toNatClampNeg ((j_up vi 70 (x5 - 1).toNatClampNeg (vi 70 x5.toNatClampNeg)) 71 x5.toNatClampNeg)) 72 x5.toNatClampNeg)) 73 (x5 - 1).toNatClampNeg ((j_up (j_up (j_up vi 70 (x5 - 1).toNatClampNeg (vi 70 x5.toNatClampNeg)) 71 (x5 - 1).toNatClampNeg ((j_up vi 70 (x5 - 1).toNatClampNeg (vi 70 x5.toNatClampNeg)) 71 x5.toNatClampNeg)) 72 (x5 - 1).toNatClampNeg ((j_up (j_up vi 70 (x5 - 1).toNatClampNeg (vi 70 x5.toNatClampNeg)) 71 (x5 - 1).toNatClampNeg ((j_up vi 70 (x5 - 1).toNatClampNeg (vi 70 x5.toNatClampNeg)) 71 x5.toNatClampNeg)) 72 x5.toNatClampNeg)) 73 x5.toNatClampNeg)) else none else none else none else none else none else none else none else none
theorem tX10_changes_34 {G : GT} {sv : SV} {vl0 : VL} {ns : Nat} {Γ : CT} {r : Int32} {vi' : VI} (B : Base G Γ mX10_changes 1 0 0) (E : Ends G Γ 0 0 (QI r sv vi' vl0)) (hW : WF sv ns) : ∀ (F : Nat) (x1 : Int32) (x2 : Int32) (x3 : Int32) (x4 : Int32) (x5 : Int32) (vi : VI), fX10_changes_34  F x1 x2 x3 x4 x5 vi = some (r, vi') → J G Γ 0 0 34 [(0, .ref (G.1 + 63)), (1, .int x1), (2, .int x2), (3, .int x3), (4, .int x4), (5, .int x5)] [] sv vi vl0 := by
  intro F
  induction F with
  | zero =>
    intro x1 x2 x3 x4 x5 vi  h
    cases (show (none : Option (Int32 × VI)) = some (r, vi') from h)
  | succ F ih =>
    intro x1 x2 x3 x4 x5 vi  h
    rw [fX10_changes_34] at h
    refine j_iload B dX10_changes_34 5 rfl ?_
    refine j_bipush B dX10_changes_36 (v := 40) (by decide) ?_
    refine j_icmp_ge (tgt := 111) B dX10_changes_38 (by decide) (fun c => ?_) (fun c => ?_)
    · replace h := h_pos c h
      refine j_aload_n B dX10_changes_111 rfl 0 rfl ?_
      refine j_dup B dX10_changes_112 rfl ?_
      refine gf_RX10_145 B rfl (wf_65 hW) dX10_changes_113 ?_
      refine j_iconst B dX10_changes_116 (v := 1) (by decide) ?_
      refine j_isub B dX10_changes_117 ?_
      refine pf_RX10_145 B rfl (wf_65 hW) dX10_changes_118 ?_
      refine j_locals [0, 1, 2, 3, 4] rfl ?_
      exact tX10_changes_121 B E hW (x1) (x2) (x3) (x4) ((j_up vi 63 9 ((vi 63 9) - 1)))  h
    · replace h := h_neg c h
      refine j_aload_n B dX10_changes_41 rfl 0 rfl ?_
      refine gf_RX10_30 B rfl (wf_65 hW) (wf_168 hW) dX10_changes_42 ?_
      refine j_iload B dX10_changes_45 5 rfl ?_
      refine j_iconst B dX10_changes_47 (v := 1) (by decide) ?_
      refine j_isub B dX10_changes_48 ?_
      refine j_aload_n B dX10_changes_49 rfl 0 rfl ?_
      refine gf_RX10_30 B rfl (wf_65 hW) (wf_168 hW) dX10_changes_50 ?_
      refine j_iload B dX10_changes_53 5 rfl ?_
      obtain ⟨b7, h⟩ := h_inb h
      refine j_iald B ((wf_72 hW)) b7 dX10_changes_55 ?_
      obtain ⟨b8, h⟩ := h_inb h
      refine j_iast B ((wf_72 hW)) b8 dX10_changes_56 ?_
      refine j_aload_n B dX10_changes_57 rfl 0 rfl ?_
      refine gf_RX10_33 B rfl (wf_65 hW) (wf_169 hW) dX10_changes_58 ?_
      refine j_iload B dX10_changes_61 5 rfl ?_
      refine j_iconst B dX10_changes_63 (v := 1) (by decide) ?_
      refine j_isub B dX10_changes_64 ?_
      refine j_aload_n B dX10_changes_65 rfl 0 rfl ?_
      refine gf_RX10_33 B rfl (wf_65 hW) (wf_169 hW) dX10_changes_66 ?_
      refine j_iload B dX10_changes_69 5 rfl ?_
      obtain ⟨b9, h⟩ := h_inb h
      refine j_iald B ((wf_73 hW)) b9 dX10_changes_71 ?_
      obtain ⟨b10, h⟩ := h_inb h
      refine j_iast B ((wf_73 hW)) b10 dX10_changes_72 ?_
      refine j_aload_n B dX10_changes_73 rfl 0 rfl ?_
      refine gf_RX10_36 B rfl (wf_65 hW) (wf_170 hW) dX10_changes_74 ?_
      refine j_iload B dX10_changes_77 5 rfl ?_
      refine j_iconst B dX10_changes_79 (v := 1) (by decide) ?_
      refine j_isub B dX10_changes_80 ?_
      refine j_aload_n B dX10_changes_81 rfl 0 rfl ?_
      refine gf_RX10_36 B rfl (wf_65 hW) (wf_170 hW) dX10_changes_82 ?_
      refine j_iload B dX10_changes_85 5 rfl ?_
      obtain ⟨b11, h⟩ := h_inb h
      refine j_iald B ((wf_74 hW)) b11 dX10_changes_87 ?_
      obtain ⟨b12, h⟩ := h_inb h
      refine j_iast B ((wf_74 hW)) b12 dX10_changes_88 ?_
      refine j_aload_n B dX10_changes_89 rfl 0 rfl ?_
      refine gf_RX10_39 B rfl (wf_65 hW) (wf_171 hW) dX10_changes_90 ?_
      refine j_iload B dX10_changes_93 5 rfl ?_
      refine j_iconst B dX10_changes_95 (v := 1) (by decide) ?_
      refine j_isub B dX10_changes_96 ?_
      refine j_aload_n B dX10_changes_97 rfl 0 rfl ?_
      refine gf_RX10_39 B rfl (wf_65 hW) (wf_171 hW) dX10_changes_98 ?_
      refine j_iload B dX10_changes_101 5 rfl ?_
      obtain ⟨b13, h⟩ := h_inb h
      refine j_iald B ((wf_75 hW)) b13 dX10_changes_103 ?_
      obtain ⟨b14, h⟩ := h_inb h
      refine j_iast B ((wf_75 hW)) b14 dX10_changes_104 ?_
      refine j_iinc (v := (x5 + 1)) (L' := [(5, .int (x5 + 1)), (0, .ref (G.1 + 63)), (1, .int x1), (2, .int x2), (3, .int x3), (4, .int x4)]) B dX10_changes_105 5 rfl rfl (by decide) rfl ?_
      refine j_goto (tgt := 34) B dX10_changes_108 (by decide) ?_
      refine j_locals [1, 2, 3, 4, 5, 0] rfl ?_
      exact ih (x1) (x2) (x3) (x4) ((x5 + 1)) ((j_up (j_up (j_up (j_up vi 70 (x5 - 1).toNatClampNeg (vi 70 x5.toNatClampNeg)) 71 (x5 - 1).toNatClampNeg ((j_up vi 70 (x5 - 1).toNatClampNeg (vi 70 x5.toNatClampNeg)) 71 x5.toNatClampNeg)) 72 (x5 - 1).toNatClampNeg ((j_up (j_up vi 70 (x5 - 1).toNatClampNeg (vi 70 x5.toNatClampNeg)) 71 (x5 - 1).toNatClampNeg ((j_up vi 70 (x5 - 1).toNatClampNeg (vi 70 x5.toNatClampNeg)) 71 x5.toNatClampNeg)) 72 x5.toNatClampNeg)) 73 (x5 - 1).toNatClampNeg ((j_up (j_up (j_up vi 70 (x5 - 1).toNatClampNeg (vi 70 x5.toNatClampNeg)) 71 (x5 - 1).toNatClampNeg ((j_up vi 70 (x5 - 1).toNatClampNeg (vi 70 x5.toNatClampNeg)) 71 x5.toNatClampNeg)) 72 (x5 - 1).toNatClampNeg ((j_up (j_up vi 70 (x5 - 1).toNatClampNeg (vi 70 x5.toNatClampNeg)) 71 (x5 - 1).toNatClampNeg ((j_up vi 70 (x5 - 1).toNatClampNeg (vi 70 x5.toNatClampNeg)) 71 x5.toNatClampNeg)) 72 x5.toNatClampNeg)) 73 x5.toNatClampNeg)))  h
def fX10_changes (x1 : Int32) (x2 : Int32) (x3 : Int32) (vi0 : VI) : Option (Int32 × VI) := (fX10_valueAt x1 x2 vi0).bind fun r1 => if r1 = x3 then some (r1, vi0) else if ((j_up vi0 63 10 0) 63 9) = 40 then fX10_changes_34  FU x1 x2 x3 r1 1 (j_up vi0 63 10 0) else fX10_changes_121  x1 x2 x3 r1 (j_up vi0 63 10 0)
theorem tX10_changes {G : GT} {sv : SV} {vi0 : VI} {vl0 : VL} {ns : Nat} {x1 : Int32} {x2 : Int32} {x3 : Int32} {r : Int32} {vi' : VI} (hW : WF sv ns) (h : fX10_changes x1 x2 x3 vi0 = some (r, vi')) : Call G mX10_changes 1 0 0 [.ref (G.1 + 63), .int x1, .int x2, .int x3] sv vi0 vl0 (QI r sv vi' vl0) := by
  refine j_mk (by decide +kernel) (Nat.le_of_ble_eq_true rfl) (fun Γ B E => ?_)
  show J G Γ 0 0 0 [(0, .ref (G.1 + 63)), (1, .int x1), (2, .int x2), (3, .int x3)] [] sv vi0 vl0
  unfold fX10_changes at h
  refine j_aload_n B dX10_changes_0 rfl 0 rfl ?_
  refine j_iload_n B dX10_changes_1 rfl 1 rfl ?_
  refine j_iload_n B dX10_changes_2 rfl 2 rfl ?_
  obtain ⟨r1, hr1, h⟩ := h_bind h
  refine j_cVI (rest := []) B (tX10_valueAt hW hr1) cls10 (wf_65 hW) jt_RX10_139 wi_X10_valueAt ws_X10_valueAt rfl (by decide) (Nat.le_refl _) (Nat.le_refl _) rfl (Nat.le_of_ble_eq_true rfl) dX10_changes_3 ?_
  refine j_istore (L' := [(4, .int r1), (0, .ref (G.1 + 63)), (1, .int x1), (2, .int x2), (3, .int x3)]) B dX10_changes_6 (by decide) rfl ?_
  refine j_iload B dX10_changes_8 0 rfl ?_
  refine j_iload_n B dX10_changes_10 rfl 4 rfl ?_
  refine j_icmp_ne (tgt := 17) B dX10_changes_11 (by decide) (fun c => ?_) (fun c => ?_)
  · replace h := h_neg c h
    refine j_aload_n B dX10_changes_17 rfl 1 rfl ?_
    refine j_iconst B dX10_changes_18 (v := 0) (by decide) ?_
    refine pf_RX10_142 B rfl (wf_65 hW) dX10_changes_19 ?_
    refine j_aload_n B dX10_changes_22 rfl 1 rfl ?_
    refine gf_RX10_145 B rfl (wf_65 hW) dX10_changes_23 ?_
    refine j_bipush B dX10_changes_26 (v := 40) (by decide) ?_
    refine j_icmp_ne (tgt := 121) B dX10_changes_28 (by decide) (fun c => ?_) (fun c => ?_)
    · replace h := h_neg c h
      refine j_locals [1, 2, 3, 4, 0] rfl ?_
      exact tX10_changes_121 B E hW (x1) (x2) (x3) (r1) ((j_up vi0 63 10 0))  h
    · replace h := h_pos c h
      refine j_iconst B dX10_changes_31 (v := 1) (by decide) ?_
      refine j_istore (L' := [(5, .int 1), (4, .int r1), (0, .ref (G.1 + 63)), (1, .int x1), (2, .int x2), (3, .int x3)]) B dX10_changes_32 (by decide) rfl ?_
      refine j_locals [2, 3, 4, 5, 1, 0] rfl ?_
      exact tX10_changes_34 B E hW FU (x1) (x2) (x3) (r1) (1) ((j_up vi0 63 10 0))  h
  · replace h := h_pos c h
    refine j_iload B dX10_changes_14 0 rfl ?_
    obtain ⟨e1, e2⟩ := Prod.mk.inj (Option.some.inj h)
    subst e1
    subst e2
    exact j_iret B E rfl dX10_changes_16 (Nat.le_refl _) (Nat.le_refl _) ⟨rfl, rfl, rfl, rfl⟩
def fX10_undo  (vi0 : VI) : Option (Int32 × VI) := if (vi0 63 9) = 0 then some ((-5), vi0) else if inb ((j_up (j_up vi0 63 9 ((vi0 63 9) - 1)) 63 10 (((j_up vi0 63 9 ((vi0 63 9) - 1)) 63 10) + 1)) 63 9) 40 = true then if inb ((j_up (j_up vi0 63 9 ((vi0 63 9) - 1)) 63 10 (((j_up vi0 63 9 ((vi0 63 9) - 1)) 63 10) + 1)) 63 9) 40 = true then if inb ((j_up (j_up vi0 63 9 ((vi0 63 9) - 1)) 63 10 (((j_up vi0 63 9 ((vi0 63 9) - 1)) 63 10) + 1)) 63 9) 40 = true then (fX10_lays1 ((j_up (j_up vi0 63 9 ((vi0 63 9) - 1)) 63 10 (((j_up vi0 63 9 ((vi0 63 9) - 1)) 63 10) + 1)) 70 ((j_up (j_up vi0 63 9 ((vi0 63 9) - 1)) 63 10 (((j_up vi0 63 9 ((vi0 63 9) - 1)) 63 10) + 1)) 63 9).toNatClampNeg) ((j_up (j_up vi0 63 9 ((vi0 63 9) - 1)) 63 10 (((j_up vi0 63 9 ((vi0 63 9) - 1)) 63 10) + 1)) 71 ((j_up (j_up vi0 63 9 ((vi0 63 9) - 1)) 63 10 (((j_up vi0 63 9 ((vi0 63 9) - 1)) 63 10) + 1)) 63 9).toNatClampNeg) ((j_up (j_up vi0 63 9 ((vi0 63 9) - 1)) 63 10 (((j_up vi0 63 9 ((vi0 63 9) - 1)) 63 10) + 1)) 72 ((j_up (j_up vi0 63 9 ((vi0 63 9) - 1)) 63 10 (((j_up vi0 63 9 ((vi0 63 9) - 1)) 63 10) + 1)) 63 9).toNatClampNeg) (j_up (j_up vi0 63 9 ((vi0 63 9) - 1)) 63 10 (((j_up vi0 63 9 ((vi0 63 9) - 1)) 63 10) + 1))).bind fun r4 => some ((r4 63 9), r4) else none else none else none
theorem tX10_undo {G : GT} {sv : SV} {vi0 : VI} {vl0 : VL} {ns : Nat} {r : Int32} {vi' : VI} (hW : WF sv ns) (h : fX10_undo vi0 = some (r, vi')) : Call G mX10_undo 1 0 0 [.ref (G.1 + 63)] sv vi0 vl0 (QI r sv vi' vl0) := by
  refine j_mk (by decide +kernel) (Nat.le_of_ble_eq_true rfl) (fun Γ B E => ?_)
  show J G Γ 0 0 0 [(0, .ref (G.1 + 63))] [] sv vi0 vl0
  unfold fX10_undo at h
  refine j_aload_n B dX10_undo_0 rfl 0 rfl ?_
  refine gf_RX10_145 B rfl (wf_65 hW) dX10_undo_1 ?_
  refine j_if_ne (tgt := 10) B dX10_undo_4 (by decide) (fun c => ?_) (fun c => ?_)
  · replace h := h_neg c h
    refine j_aload_n B dX10_undo_10 rfl 0 rfl ?_
    refine j_dup B dX10_undo_11 rfl ?_
    refine gf_RX10_145 B rfl (wf_65 hW) dX10_undo_12 ?_
    refine j_iconst B dX10_undo_15 (v := 1) (by decide) ?_
    refine j_isub B dX10_undo_16 ?_
    refine pf_RX10_145 B rfl (wf_65 hW) dX10_undo_17 ?_
    refine j_aload_n B dX10_undo_20 rfl 0 rfl ?_
    refine j_dup B dX10_undo_21 rfl ?_
    refine gf_RX10_142 B rfl (wf_65 hW) dX10_undo_22 ?_
    refine j_iconst B dX10_undo_25 (v := 1) (by decide) ?_
    refine j_iadd B dX10_undo_26 ?_
    refine pf_RX10_142 B rfl (wf_65 hW) dX10_undo_27 ?_
    refine j_aload_n B dX10_undo_30 rfl 0 rfl ?_
    refine j_aload_n B dX10_undo_31 rfl 0 rfl ?_
    refine gf_RX10_30 B rfl (wf_65 hW) (wf_168 hW) dX10_undo_32 ?_
    refine j_aload_n B dX10_undo_35 rfl 0 rfl ?_
    refine gf_RX10_145 B rfl (wf_65 hW) dX10_undo_36 ?_
    obtain ⟨b1, h⟩ := h_inb h
    refine j_iald B ((wf_72 hW)) b1 dX10_undo_39 ?_
    refine j_aload_n B dX10_undo_40 rfl 0 rfl ?_
    refine gf_RX10_33 B rfl (wf_65 hW) (wf_169 hW) dX10_undo_41 ?_
    refine j_aload_n B dX10_undo_44 rfl 0 rfl ?_
    refine gf_RX10_145 B rfl (wf_65 hW) dX10_undo_45 ?_
    obtain ⟨b2, h⟩ := h_inb h
    refine j_iald B ((wf_73 hW)) b2 dX10_undo_48 ?_
    refine j_aload_n B dX10_undo_49 rfl 0 rfl ?_
    refine gf_RX10_36 B rfl (wf_65 hW) (wf_170 hW) dX10_undo_50 ?_
    refine j_aload_n B dX10_undo_53 rfl 0 rfl ?_
    refine gf_RX10_145 B rfl (wf_65 hW) dX10_undo_54 ?_
    obtain ⟨b3, h⟩ := h_inb h
    refine j_iald B ((wf_74 hW)) b3 dX10_undo_57 ?_
    obtain ⟨r4, hr4, h⟩ := h_bind h
    refine j_cVV (rest := []) B (tX10_lays1 hW hr4) cls10 (wf_65 hW) jt_RX10_148 wi_X10_lays1 ws_X10_lays1 rfl (by decide) (Nat.le_refl _) (Nat.le_refl _) rfl (Nat.le_of_ble_eq_true rfl) dX10_undo_58 ?_
    refine j_aload_n B dX10_undo_61 rfl 0 rfl ?_
    refine gf_RX10_145 B rfl (wf_65 hW) dX10_undo_62 ?_
    obtain ⟨e1, e2⟩ := Prod.mk.inj (Option.some.inj h)
    subst e1
    subst e2
    exact j_iret B E rfl dX10_undo_65 (Nat.le_refl _) (Nat.le_refl _) ⟨rfl, rfl, rfl, rfl⟩
  · replace h := h_pos c h
    refine j_bipush B dX10_undo_7 (v := (-5)) (by decide) ?_
    obtain ⟨e1, e2⟩ := Prod.mk.inj (Option.some.inj h)
    subst e1
    subst e2
    exact j_iret B E rfl dX10_undo_9 (Nat.le_refl _) (Nat.le_refl _) ⟨rfl, rfl, rfl, rfl⟩
def fX10_redo  (vi0 : VI) : Option (Int32 × VI) := if (vi0 63 10) = 0 then some ((-5), vi0) else if inb (vi0 63 9) 40 = true then if inb (vi0 63 9) 40 = true then if inb (vi0 63 9) 40 = true then (fX10_lays1 (vi0 70 (vi0 63 9).toNatClampNeg) (vi0 71 (vi0 63 9).toNatClampNeg) (vi0 73 (vi0 63 9).toNatClampNeg) vi0).bind fun r4 => some (((j_up (j_up r4 63 9 ((r4 63 9) + 1)) 63 10 (((j_up r4 63 9 ((r4 63 9) + 1)) 63 10) - 1)) 63 10), (j_up (j_up r4 63 9 ((r4 63 9) + 1)) 63 10 (((j_up r4 63 9 ((r4 63 9) + 1)) 63 10) - 1))) else none else none else none
theorem tX10_redo {G : GT} {sv : SV} {vi0 : VI} {vl0 : VL} {ns : Nat} {r : Int32} {vi' : VI} (hW : WF sv ns) (h : fX10_redo vi0 = some (r, vi')) : Call G mX10_redo 1 0 0 [.ref (G.1 + 63)] sv vi0 vl0 (QI r sv vi' vl0) := by
  refine j_mk (by decide +kernel) (Nat.le_of_ble_eq_true rfl) (fun Γ B E => ?_)
  show J G Γ 0 0 0 [(0, .ref (G.1 + 63))] [] sv vi0 vl0
  unfold fX10_redo at h
  refine j_aload_n B dX10_redo_0 rfl 0 rfl ?_
  refine gf_RX10_142 B rfl (wf_65 hW) dX10_redo_1 ?_
  refine j_if_ne (tgt := 10) B dX10_redo_4 (by decide) (fun c => ?_) (fun c => ?_)
  · replace h := h_neg c h
    refine j_aload_n B dX10_redo_10 rfl 0 rfl ?_
    refine j_aload_n B dX10_redo_11 rfl 0 rfl ?_
    refine gf_RX10_30 B rfl (wf_65 hW) (wf_168 hW) dX10_redo_12 ?_
    refine j_aload_n B dX10_redo_15 rfl 0 rfl ?_
    refine gf_RX10_145 B rfl (wf_65 hW) dX10_redo_16 ?_
    obtain ⟨b1, h⟩ := h_inb h
    refine j_iald B ((wf_72 hW)) b1 dX10_redo_19 ?_
    refine j_aload_n B dX10_redo_20 rfl 0 rfl ?_
    refine gf_RX10_33 B rfl (wf_65 hW) (wf_169 hW) dX10_redo_21 ?_
    refine j_aload_n B dX10_redo_24 rfl 0 rfl ?_
    refine gf_RX10_145 B rfl (wf_65 hW) dX10_redo_25 ?_
    obtain ⟨b2, h⟩ := h_inb h
    refine j_iald B ((wf_73 hW)) b2 dX10_redo_28 ?_
    refine j_aload_n B dX10_redo_29 rfl 0 rfl ?_
    refine gf_RX10_39 B rfl (wf_65 hW) (wf_171 hW) dX10_redo_30 ?_
    refine j_aload_n B dX10_redo_33 rfl 0 rfl ?_
    refine gf_RX10_145 B rfl (wf_65 hW) dX10_redo_34 ?_
    obtain ⟨b3, h⟩ := h_inb h
    refine j_iald B ((wf_75 hW)) b3 dX10_redo_37 ?_
    obtain ⟨r4, hr4, h⟩ := h_bind h
    refine j_cVV (rest := []) B (tX10_lays1 hW hr4) cls10 (wf_65 hW) jt_RX10_148 wi_X10_lays1 ws_X10_lays1 rfl (by decide) (Nat.le_refl _) (Nat.le_refl _) rfl (Nat.le_of_ble_eq_true rfl) dX10_redo_38 ?_
    refine j_aload_n B dX10_redo_41 rfl 0 rfl ?_
    refine j_dup B dX10_redo_42 rfl ?_
    refine gf_RX10_145 B rfl (wf_65 hW) dX10_redo_43 ?_
    refine j_iconst B dX10_redo_46 (v := 1) (by decide) ?_
    refine j_iadd B dX10_redo_47 ?_
    refine pf_RX10_145 B rfl (wf_65 hW) dX10_redo_48 ?_
    refine j_aload_n B dX10_redo_51 rfl 0 rfl ?_
    refine j_dup B dX10_redo_52 rfl ?_
    refine gf_RX10_142 B rfl (wf_65 hW) dX10_redo_53 ?_
    refine j_iconst B dX10_redo_56 (v := 1) (by decide) ?_
    refine j_isub B dX10_redo_57 ?_
    refine pf_RX10_142 B rfl (wf_65 hW) dX10_redo_58 ?_
    refine j_aload_n B dX10_redo_61 rfl 0 rfl ?_
    refine gf_RX10_142 B rfl (wf_65 hW) dX10_redo_62 ?_
    obtain ⟨e1, e2⟩ := Prod.mk.inj (Option.some.inj h)
    subst e1
    subst e2
    exact j_iret B E rfl dX10_redo_65 (Nat.le_refl _) (Nat.le_refl _) ⟨rfl, rfl, rfl, rfl⟩
  · replace h := h_pos c h
    refine j_bipush B dX10_redo_7 (v := (-5)) (by decide) ?_
    obtain ⟨e1, e2⟩ := Prod.mk.inj (Option.some.inj h)
    subst e1
    subst e2
    exact j_iret B E rfl dX10_redo_9 (Nat.le_refl _) (Nat.le_refl _) ⟨rfl, rfl, rfl, rfl⟩
def fX10_isOne (x1 : Int32) (x2 : Int32) (vi0 : VI) : Option (Bool) := (fX10_in x2 0 1).bind fun r1 => if r1 = true then (fX10_isSill x1 vi0).bind fun r3 => some (r3) else if x2 = 2 then (fX10_isPerson x1).bind fun r2 => some (r2) else if x2 = 3 then if x1 = 0 then some (true) else some (false) else some (false)
theorem tX10_isOne {G : GT} {sv : SV} {vi0 : VI} {vl0 : VL} {ns : Nat} {x1 : Int32} {x2 : Int32} {r : Bool} (hW : WF sv ns) (h : fX10_isOne x1 x2 vi0 = some (r)) : Call G mX10_isOne 2 0 0 [.ref (G.1 + 63), .int x1, .int x2] sv vi0 vl0 (QI (b2i r) sv vi0 vl0) := by
  refine j_mk (by decide +kernel) (Nat.le_of_ble_eq_true rfl) (fun Γ B E => ?_)
  show J G Γ 0 0 0 [(0, .ref (G.1 + 63)), (1, .int x1), (2, .int x2)] [] sv vi0 vl0
  unfold fX10_isOne at h
  refine j_iload_n B dX10_isOne_0 rfl 2 rfl ?_
  refine j_iconst B dX10_isOne_1 (v := 0) (by decide) ?_
  refine j_iconst B dX10_isOne_2 (v := 1) (by decide) ?_
  obtain ⟨r1, hr1, h⟩ := h_bind h
  refine j_cSI (rest := []) B (tX10_in hr1) jt_RX10_124 wst_X10_in rfl (by decide) (Nat.le_refl _) (Nat.le_refl _) rfl (Nat.le_of_ble_eq_true rfl) dX10_isOne_3 ?_
  refine j_if_eq (tgt := 17) B dX10_isOne_6 (by decide) (fun c => ?_) (fun c => ?_)
  · replace h := h_neg (b2i_0 c) h
    refine j_iload_n B dX10_isOne_17 rfl 2 rfl ?_
    refine j_iconst B dX10_isOne_18 (v := 2) (by decide) ?_
    refine j_icmp_ne (tgt := 29) B dX10_isOne_19 (by decide) (fun c => ?_) (fun c => ?_)
    · replace h := h_neg c h
      refine j_iload_n B dX10_isOne_29 rfl 2 rfl ?_
      refine j_iconst B dX10_isOne_30 (v := 3) (by decide) ?_
      refine j_icmp_ne (tgt := 42) B dX10_isOne_31 (by decide) (fun c => ?_) (fun c => ?_)
      · replace h := h_neg c h
        refine j_iconst B dX10_isOne_42 (v := 0) (by decide) ?_
        have e1 := Option.some.inj h
        subst e1
        exact j_zret B E rfl (Or.inl rfl) dX10_isOne_43 (Nat.le_refl _) (Nat.le_refl _) ⟨rfl, rfl, rfl, rfl⟩
      · replace h := h_pos c h
        refine j_iload_n B dX10_isOne_34 rfl 1 rfl ?_
        refine j_if_ne (tgt := 42) B dX10_isOne_35 (by decide) (fun c => ?_) (fun c => ?_)
        · replace h := h_neg c h
          refine j_iconst B dX10_isOne_42 (v := 0) (by decide) ?_
          have e1 := Option.some.inj h
          subst e1
          exact j_zret B E rfl (Or.inl rfl) dX10_isOne_43 (Nat.le_refl _) (Nat.le_refl _) ⟨rfl, rfl, rfl, rfl⟩
        · replace h := h_pos c h
          refine j_iconst B dX10_isOne_38 (v := 1) (by decide) ?_
          refine j_goto (tgt := 43) B dX10_isOne_39 (by decide) ?_
          have e1 := Option.some.inj h
          subst e1
          exact j_zret B E rfl (Or.inr rfl) dX10_isOne_43 (Nat.le_refl _) (Nat.le_refl _) ⟨rfl, rfl, rfl, rfl⟩
    · replace h := h_pos c h
      refine j_iload_n B dX10_isOne_22 rfl 1 rfl ?_
      obtain ⟨r2, hr2, h⟩ := h_bind h
      refine j_cSI (rest := []) B (tX10_isPerson hr2) jt_RX10_155 wst_X10_isPerson rfl (by decide) (Nat.le_refl _) (Nat.le_refl _) rfl (Nat.le_of_ble_eq_true rfl) dX10_isOne_23 ?_
      refine j_goto (tgt := 43) B dX10_isOne_26 (by decide) ?_
      have z9 := b2i_or r2
      have e1 := Option.some.inj h
      subst e1
      exact j_zret B E rfl z9 dX10_isOne_43 (Nat.le_refl _) (Nat.le_refl _) ⟨rfl, rfl, rfl, rfl⟩
  · replace h := h_pos (b2i_1 c) h
    refine j_aload_n B dX10_isOne_9 rfl 0 rfl ?_
    refine j_iload_n B dX10_isOne_10 rfl 1 rfl ?_
    obtain ⟨r3, hr3, h⟩ := h_bind h
    refine j_cVI (rest := []) B (tX10_isSill hW hr3) cls10 (wf_65 hW) jt_RX10_152 wi_X10_isSill ws_X10_isSill rfl (by decide) (Nat.le_refl _) (Nat.le_refl _) rfl (Nat.le_of_ble_eq_true rfl) dX10_isOne_11 ?_
    refine j_goto (tgt := 43) B dX10_isOne_14 (by decide) ?_
    have z9 := b2i_or r3
    have e1 := Option.some.inj h
    subst e1
    exact j_zret B E rfl z9 dX10_isOne_43 (Nat.le_refl _) (Nat.le_refl _) ⟨rfl, rfl, rfl, rfl⟩
def fX10_mayHave (x0 : Int32) (x1 : Int32)  : Option (Bool) := if x0 = 3 then (fX10_in x1 0 3).bind fun r2 => some (r2) else (fX10_in x1 0 9).bind fun r1 => some (r1)
theorem tX10_mayHave {G : GT} {sv : SV} {vi0 : VI} {vl0 : VL} {x0 : Int32} {x1 : Int32} {r : Bool} (h : fX10_mayHave x0 x1 = some (r)) : Call G mX10_mayHave 1 0 0 [.int x0, .int x1] sv vi0 vl0 (QI (b2i r) sv vi0 vl0) := by
  refine j_mk (by decide +kernel) (Nat.le_of_ble_eq_true rfl) (fun Γ B E => ?_)
  show J G Γ 0 0 0 [(0, .int x0), (1, .int x1)] [] sv vi0 vl0
  unfold fX10_mayHave at h
  refine j_iload_n B dX10_mayHave_0 rfl 0 rfl ?_
  refine j_iconst B dX10_mayHave_1 (v := 3) (by decide) ?_
  refine j_icmp_ne (tgt := 14) B dX10_mayHave_2 (by decide) (fun c => ?_) (fun c => ?_)
  · replace h := h_neg c h
    refine j_iload_n B dX10_mayHave_14 rfl 1 rfl ?_
    refine j_iconst B dX10_mayHave_15 (v := 0) (by decide) ?_
    refine j_bipush B dX10_mayHave_16 (v := 9) (by decide) ?_
    obtain ⟨r1, hr1, h⟩ := h_bind h
    refine j_cSI (rest := []) B (tX10_in hr1) jt_RX10_124 wst_X10_in rfl (by decide) (Nat.le_refl _) (Nat.le_refl _) rfl (Nat.le_of_ble_eq_true rfl) dX10_mayHave_18 ?_
    have z9 := b2i_or r1
    have e1 := Option.some.inj h
    subst e1
    exact j_zret B E rfl z9 dX10_mayHave_21 (Nat.le_refl _) (Nat.le_refl _) ⟨rfl, rfl, rfl, rfl⟩
  · replace h := h_pos c h
    refine j_iload_n B dX10_mayHave_5 rfl 1 rfl ?_
    refine j_iconst B dX10_mayHave_6 (v := 0) (by decide) ?_
    refine j_iconst B dX10_mayHave_7 (v := 3) (by decide) ?_
    obtain ⟨r2, hr2, h⟩ := h_bind h
    refine j_cSI (rest := []) B (tX10_in hr2) jt_RX10_124 wst_X10_in rfl (by decide) (Nat.le_refl _) (Nat.le_refl _) rfl (Nat.le_of_ble_eq_true rfl) dX10_mayHave_8 ?_
    refine j_goto (tgt := 21) B dX10_mayHave_11 (by decide) ?_
    have z9 := b2i_or r2
    have e1 := Option.some.inj h
    subst e1
    exact j_zret B E rfl z9 dX10_mayHave_21 (Nat.le_refl _) (Nat.le_refl _) ⟨rfl, rfl, rfl, rfl⟩
def fX10_mend (x1 : Int32) (x2 : Int32) (x3 : Int32) (vi0 : VI) : Option (Int32 × VI) := (fX10_isOne x1 x2 vi0).bind fun r1 => if r1 = true then (fX10_mayHave x2 x3).bind fun r2 => if r2 = true then (fX10_changes x2 x1 x3 vi0).bind fun r3 => some (r3.1, r3.2) else some ((-1), vi0) else some ((-1), vi0)
theorem tX10_mend {G : GT} {sv : SV} {vi0 : VI} {vl0 : VL} {ns : Nat} {x1 : Int32} {x2 : Int32} {x3 : Int32} {r : Int32} {vi' : VI} (hW : WF sv ns) (h : fX10_mend x1 x2 x3 vi0 = some (r, vi')) : Call G mX10_mend 3 0 0 [.ref (G.1 + 63), .int x1, .int x2, .int x3] sv vi0 vl0 (QI r sv vi' vl0) := by
  refine j_mk (by decide +kernel) (Nat.le_of_ble_eq_true rfl) (fun Γ B E => ?_)
  show J G Γ 0 0 0 [(0, .ref (G.1 + 63)), (1, .int x1), (2, .int x2), (3, .int x3)] [] sv vi0 vl0
  unfold fX10_mend at h
  refine j_aload_n B dX10_mend_0 rfl 0 rfl ?_
  refine j_iload_n B dX10_mend_1 rfl 1 rfl ?_
  refine j_iload_n B dX10_mend_2 rfl 2 rfl ?_
  obtain ⟨r1, hr1, h⟩ := h_bind h
  refine j_cVI (rest := []) B (tX10_isOne hW hr1) cls10 (wf_65 hW) jt_RX10_158 wi_X10_isOne ws_X10_isOne rfl (by decide) (Nat.le_refl _) (Nat.le_refl _) rfl (Nat.le_of_ble_eq_true rfl) dX10_mend_3 ?_
  refine j_if_eq (tgt := 27) B dX10_mend_6 (by decide) (fun c => ?_) (fun c => ?_)
  · replace h := h_neg (b2i_0 c) h
    refine j_iconst B dX10_mend_27 (v := (-1)) (by decide) ?_
    obtain ⟨e1, e2⟩ := Prod.mk.inj (Option.some.inj h)
    subst e1
    subst e2
    exact j_iret B E rfl dX10_mend_28 (Nat.le_refl _) (Nat.le_refl _) ⟨rfl, rfl, rfl, rfl⟩
  · replace h := h_pos (b2i_1 c) h
    refine j_iload_n B dX10_mend_9 rfl 2 rfl ?_
    refine j_iload_n B dX10_mend_10 rfl 3 rfl ?_
    obtain ⟨r2, hr2, h⟩ := h_bind h
    refine j_cSI (rest := []) B (tX10_mayHave hr2) jt_RX10_162 wst_X10_mayHave rfl (by decide) (Nat.le_refl _) (Nat.le_refl _) rfl (Nat.le_of_ble_eq_true rfl) dX10_mend_11 ?_
    refine j_if_eq (tgt := 27) B dX10_mend_14 (by decide) (fun c => ?_) (fun c => ?_)
    · replace h := h_neg (b2i_0 c) h
      refine j_iconst B dX10_mend_27 (v := (-1)) (by decide) ?_
      obtain ⟨e1, e2⟩ := Prod.mk.inj (Option.some.inj h)
      subst e1
      subst e2
      exact j_iret B E rfl dX10_mend_28 (Nat.le_refl _) (Nat.le_refl _) ⟨rfl, rfl, rfl, rfl⟩
    · replace h := h_pos (b2i_1 c) h
      refine j_aload_n B dX10_mend_17 rfl 0 rfl ?_
      refine j_iload_n B dX10_mend_18 rfl 2 rfl ?_
      refine j_iload_n B dX10_mend_19 rfl 1 rfl ?_
      refine j_iload_n B dX10_mend_20 rfl 3 rfl ?_
      obtain ⟨r3, hr3, h⟩ := h_bind h
      refine j_cVI (rest := []) B (tX10_changes hW hr3) cls10 (wf_65 hW) jt_RX10_165 wi_X10_changes ws_X10_changes rfl (by decide) (Nat.le_refl _) (Nat.le_refl _) rfl (Nat.le_of_ble_eq_true rfl) dX10_mend_21 ?_
      refine j_goto (tgt := 28) B dX10_mend_24 (by decide) ?_
      obtain ⟨e1, e2⟩ := Prod.mk.inj (Option.some.inj h)
      subst e1
      subst e2
      exact j_iret B E rfl dX10_mend_28 (Nat.le_refl _) (Nat.le_refl _) ⟨rfl, rfl, rfl, rfl⟩
def fX10_layNow_17  : Nat → Int32 → Int32 → VI → Option (VI)
  | 0, _, _, _ => none
  | F + 1, x1, x2, vi => if (vi 63 30) ≤ x2 then some (vi) else if inb ((12 * x1) + x2) 60 = true then if inb x2 13 = true then if inb ((12 * x1) + x2) 60 = true then if inb x2 13 = true then fX10_layNow_17  F x1 (x2 + 1) (j_up (j_up vi 82 x2.toNatClampNeg (vi 68 ((12 * x1) + x2).toNatClampNeg)) 83 x2.toNatClampNeg ((j_up vi 82 x2.toNatClampNeg (vi 68 ((12 * x1) + x2).toNatClampNeg)) 69 ((12 * x1) + x2).toNatClampNeg)) else none else none else none else none
theorem tX10_layNow_17 {G : GT} {sv : SV} {vl0 : VL} {ns : Nat} {Γ : CT} {vi' : VI} (B : Base G Γ mX10_layNow 0 0 0) (E : Ends G Γ 0 0 (QV sv vi' vl0)) (hW : WF sv ns) : ∀ (F : Nat) (x1 : Int32) (x2 : Int32) (vi : VI), fX10_layNow_17  F x1 x2 vi = some (vi') → J G Γ 0 0 17 [(0, .ref (G.1 + 63)), (1, .int x1), (2, .int x2)] [] sv vi vl0 := by
  intro F
  induction F with
  | zero =>
    intro x1 x2 vi  h
    cases (show (none : Option (VI)) = some (vi') from h)
  | succ F ih =>
    intro x1 x2 vi  h
    rw [fX10_layNow_17] at h
    refine j_iload_n B dX10_layNow_17 rfl 2 rfl ?_
    refine j_aload_n B dX10_layNow_18 rfl 0 rfl ?_
    refine gf_RX10_173 B rfl (wf_65 hW) dX10_layNow_19 ?_
    refine j_icmp_ge (tgt := 65) B dX10_layNow_22 (by decide) (fun c => ?_) (fun c => ?_)
    · replace h := h_pos c h
      have e1 := Option.some.inj h
      subst e1
      exact j_vret B E rfl dX10_layNow_65 (Nat.le_refl _) (Nat.le_refl _) ⟨rfl, rfl, rfl, rfl⟩
    · replace h := h_neg c h
      refine j_aload_n B dX10_layNow_25 rfl 0 rfl ?_
      refine gf_RX10_68 B rfl (wf_65 hW) (wf_180 hW) dX10_layNow_26 ?_
      refine j_iload_n B dX10_layNow_29 rfl 2 rfl ?_
      refine j_aload_n B dX10_layNow_30 rfl 0 rfl ?_
      refine gf_RX10_24 B rfl (wf_65 hW) (wf_166 hW) dX10_layNow_31 ?_
      refine j_bipush B dX10_layNow_34 (v := 12) (by decide) ?_
      refine j_iload_n B dX10_layNow_36 rfl 1 rfl ?_
      refine j_imul B dX10_layNow_37 ?_
      refine j_iload_n B dX10_layNow_38 rfl 2 rfl ?_
      refine j_iadd B dX10_layNow_39 ?_
      obtain ⟨b2, h⟩ := h_inb h
      refine j_iald B ((wf_70 hW)) b2 dX10_layNow_40 ?_
      obtain ⟨b3, h⟩ := h_inb h
      refine j_iast B ((wf_84 hW)) b3 dX10_layNow_41 ?_
      refine j_aload_n B dX10_layNow_42 rfl 0 rfl ?_
      refine gf_RX10_71 B rfl (wf_65 hW) (wf_181 hW) dX10_layNow_43 ?_
      refine j_iload_n B dX10_layNow_46 rfl 2 rfl ?_
      refine j_aload_n B dX10_layNow_47 rfl 0 rfl ?_
      refine gf_RX10_27 B rfl (wf_65 hW) (wf_167 hW) dX10_layNow_48 ?_
      refine j_bipush B dX10_layNow_51 (v := 12) (by decide) ?_
      refine j_iload_n B dX10_layNow_53 rfl 1 rfl ?_
      refine j_imul B dX10_layNow_54 ?_
      refine j_iload_n B dX10_layNow_55 rfl 2 rfl ?_
      refine j_iadd B dX10_layNow_56 ?_
      obtain ⟨b4, h⟩ := h_inb h
      refine j_iald B ((wf_71 hW)) b4 dX10_layNow_57 ?_
      obtain ⟨b5, h⟩ := h_inb h
      refine j_iast B ((wf_85 hW)) b5 dX10_layNow_58 ?_
      refine j_iinc (v := (x2 + 1)) (L' := [(2, .int (x2 + 1)), (0, .ref (G.1 + 63)), (1, .int x1)]) B dX10_layNow_59 2 rfl rfl (by decide) rfl ?_
      refine j_goto (tgt := 17) B dX10_layNow_62 (by decide) ?_
      refine j_locals [1, 2, 0] rfl ?_
      exact ih (x1) ((x2 + 1)) ((j_up (j_up vi 82 x2.toNatClampNeg (vi 68 ((12 * x1) + x2).toNatClampNeg)) 83 x2.toNatClampNeg ((j_up vi 82 x2.toNatClampNeg (vi 68 ((12 * x1) + x2).toNatClampNeg)) 69 ((12 * x1) + x2).toNatClampNeg)))  h
def fX10_layNow (x1 : Int32) (vi0 : VI) : Option (VI) := if inb x1 5 = true then fX10_layNow_17  FU x1 0 (j_up (j_up vi0 63 29 x1) 63 30 ((j_up vi0 63 29 x1) 67 x1.toNatClampNeg)) else none
theorem tX10_layNow {G : GT} {sv : SV} {vi0 : VI} {vl0 : VL} {ns : Nat} {x1 : Int32} {vi' : VI} (hW : WF sv ns) (h : fX10_layNow x1 vi0 = some (vi')) : Call G mX10_layNow 0 0 0 [.ref (G.1 + 63), .int x1] sv vi0 vl0 (QV sv vi' vl0) := by
  refine j_mk (by decide +kernel) (Nat.le_of_ble_eq_true rfl) (fun Γ B E => ?_)
  show J G Γ 0 0 0 [(0, .ref (G.1 + 63)), (1, .int x1)] [] sv vi0 vl0
  unfold fX10_layNow at h
  refine j_aload_n B dX10_layNow_0 rfl 0 rfl ?_
  refine j_iload_n B dX10_layNow_1 rfl 1 rfl ?_
  refine pf_RX10_263 B rfl (wf_65 hW) dX10_layNow_2 ?_
  refine j_aload_n B dX10_layNow_5 rfl 0 rfl ?_
  refine j_aload_n B dX10_layNow_6 rfl 0 rfl ?_
  refine gf_RX10_21 B rfl (wf_65 hW) (wf_165 hW) dX10_layNow_7 ?_
  refine j_iload_n B dX10_layNow_10 rfl 1 rfl ?_
  obtain ⟨b1, h⟩ := h_inb h
  refine j_iald B ((wf_69 hW)) b1 dX10_layNow_11 ?_
  refine pf_RX10_173 B rfl (wf_65 hW) dX10_layNow_12 ?_
  refine j_iconst B dX10_layNow_15 (v := 0) (by decide) ?_
  refine j_istore_n (L' := [(2, .int 0), (0, .ref (G.1 + 63)), (1, .int x1)]) B dX10_layNow_16 rfl (by decide) rfl ?_
  refine j_locals [1, 2, 0] rfl ?_
  exact tX10_layNow_17 B E hW FU (x1) (0) ((j_up (j_up vi0 63 29 x1) 63 30 ((j_up vi0 63 29 x1) 67 x1.toNatClampNeg)))  h
def fX10_allThick_4 (vi0 : VI) : Nat → Int32 → Int32 → Option (Int32)
  | 0, _, _ => none
  | F + 1, x1, x2 => if (vi0 63 30) ≤ x2 then some (x1) else if inb x2 13 = true then fX10_allThick_4 vi0 F (x1 + (vi0 83 x2.toNatClampNeg)) (x2 + 1) else none
theorem tX10_allThick_4 {G : GT} {sv : SV} {vi0 : VI} {vl0 : VL} {ns : Nat} {Γ : CT} {r : Int32} (B : Base G Γ mX10_allThick 0 0 0) (E : Ends G Γ 0 0 (QI r sv vi0 vl0)) (hW : WF sv ns) : ∀ (F : Nat) (x1 : Int32) (x2 : Int32), fX10_allThick_4 vi0 F x1 x2 = some (r) → J G Γ 0 0 4 [(0, .ref (G.1 + 63)), (1, .int x1), (2, .int x2)] [] sv vi0 vl0 := by
  intro F
  induction F with
  | zero =>
    intro x1 x2  h
    cases (show (none : Option (Int32)) = some (r) from h)
  | succ F ih =>
    intro x1 x2  h
    rw [fX10_allThick_4] at h
    refine j_iload_n B dX10_allThick_4 rfl 2 rfl ?_
    refine j_aload_n B dX10_allThick_5 rfl 0 rfl ?_
    refine gf_RX10_173 B rfl (wf_65 hW) dX10_allThick_6 ?_
    refine j_icmp_ge (tgt := 27) B dX10_allThick_9 (by decide) (fun c => ?_) (fun c => ?_)
    · replace h := h_pos c h
      refine j_iload_n B dX10_allThick_27 rfl 1 rfl ?_
      have e1 := Option.some.inj h
      subst e1
      exact j_iret B E rfl dX10_allThick_28 (Nat.le_refl _) (Nat.le_refl _) ⟨rfl, rfl, rfl, rfl⟩
    · replace h := h_neg c h
      refine j_iload_n B dX10_allThick_12 rfl 1 rfl ?_
      refine j_aload_n B dX10_allThick_13 rfl 0 rfl ?_
      refine gf_RX10_71 B rfl (wf_65 hW) (wf_181 hW) dX10_allThick_14 ?_
      refine j_iload_n B dX10_allThick_17 rfl 2 rfl ?_
      obtain ⟨b1, h⟩ := h_inb h
      refine j_iald B ((wf_85 hW)) b1 dX10_allThick_18 ?_
      refine j_iadd B dX10_allThick_19 ?_
      refine j_istore_n (L' := [(1, .int (x1 + (vi0 83 x2.toNatClampNeg))), (0, .ref (G.1 + 63)), (2, .int x2)]) B dX10_allThick_20 rfl (by decide) rfl ?_
      refine j_iinc (v := (x2 + 1)) (L' := [(2, .int (x2 + 1)), (1, .int (x1 + (vi0 83 x2.toNatClampNeg))), (0, .ref (G.1 + 63))]) B dX10_allThick_21 2 rfl rfl (by decide) rfl ?_
      refine j_goto (tgt := 4) B dX10_allThick_24 (by decide) ?_
      refine j_locals [2, 1, 0] rfl ?_
      exact ih ((x1 + (vi0 83 x2.toNatClampNeg))) ((x2 + 1))  h
def fX10_allThick  (vi0 : VI) : Option (Int32) := fX10_allThick_4 vi0 FU 0 0
theorem tX10_allThick {G : GT} {sv : SV} {vi0 : VI} {vl0 : VL} {ns : Nat} {r : Int32} (hW : WF sv ns) (h : fX10_allThick vi0 = some (r)) : Call G mX10_allThick 0 0 0 [.ref (G.1 + 63)] sv vi0 vl0 (QI r sv vi0 vl0) := by
  refine j_mk (by decide +kernel) (Nat.le_of_ble_eq_true rfl) (fun Γ B E => ?_)
  show J G Γ 0 0 0 [(0, .ref (G.1 + 63))] [] sv vi0 vl0
  unfold fX10_allThick at h
  refine j_iconst B dX10_allThick_0 (v := 0) (by decide) ?_
  refine j_istore_n (L' := [(1, .int 0), (0, .ref (G.1 + 63))]) B dX10_allThick_1 rfl (by decide) rfl ?_
  refine j_iconst B dX10_allThick_2 (v := 0) (by decide) ?_
  refine j_istore_n (L' := [(2, .int 0), (1, .int 0), (0, .ref (G.1 + 63))]) B dX10_allThick_3 rfl (by decide) rfl ?_
  refine j_locals [2, 1, 0] rfl ?_
  exact tX10_allThick_4 B E hW FU (0) (0)  h
def fX10_of (x1 : Int32) (x2 : Int32) (vi0 : VI) : Option (Int32 × VI) := (fX10_in x2 4 5).bind fun r1 => if r1 = true then (fX10_isSill x1 vi0).bind fun r4 => if r4 = true then (fX10_layNow x1 vi0).bind fun r5 => if x2 = 4 then some ((r5 63 30), r5) else (fX10_allThick r5).bind fun r6 => some (r6, r5) else some ((-1), vi0) else (fX10_isOne x1 x2 vi0).bind fun r2 => if r2 = true then (fX10_valueAt x2 x1 vi0).bind fun r3 => some (r3, vi0) else some ((-1), vi0)
theorem tX10_of {G : GT} {sv : SV} {vi0 : VI} {vl0 : VL} {ns : Nat} {x1 : Int32} {x2 : Int32} {r : Int32} {vi' : VI} (hW : WF sv ns) (h : fX10_of x1 x2 vi0 = some (r, vi')) : Call G mX10_of 3 0 0 [.ref (G.1 + 63), .int x1, .int x2] sv vi0 vl0 (QI r sv vi' vl0) := by
  refine j_mk (by decide +kernel) (Nat.le_of_ble_eq_true rfl) (fun Γ B E => ?_)
  show J G Γ 0 0 0 [(0, .ref (G.1 + 63)), (1, .int x1), (2, .int x2)] [] sv vi0 vl0
  unfold fX10_of at h
  refine j_iload_n B dX10_of_0 rfl 2 rfl ?_
  refine j_iconst B dX10_of_1 (v := 4) (by decide) ?_
  refine j_iconst B dX10_of_2 (v := 5) (by decide) ?_
  obtain ⟨r1, hr1, h⟩ := h_bind h
  refine j_cSI (rest := []) B (tX10_in hr1) jt_RX10_124 wst_X10_in rfl (by decide) (Nat.le_refl _) (Nat.le_refl _) rfl (Nat.le_of_ble_eq_true rfl) dX10_of_3 ?_
  refine j_if_eq (tgt := 41) B dX10_of_6 (by decide) (fun c => ?_) (fun c => ?_)
  · replace h := h_neg (b2i_0 c) h
    refine j_aload_n B dX10_of_41 rfl 0 rfl ?_
    refine j_iload_n B dX10_of_42 rfl 1 rfl ?_
    refine j_iload_n B dX10_of_43 rfl 2 rfl ?_
    obtain ⟨r2, hr2, h⟩ := h_bind h
    refine j_cVI (rest := []) B (tX10_isOne hW hr2) cls10 (wf_65 hW) jt_RX10_158 wi_X10_isOne ws_X10_isOne rfl (by decide) (Nat.le_refl _) (Nat.le_refl _) rfl (Nat.le_of_ble_eq_true rfl) dX10_of_44 ?_
    refine j_if_eq (tgt := 59) B dX10_of_47 (by decide) (fun c => ?_) (fun c => ?_)
    · replace h := h_neg (b2i_0 c) h
      refine j_iconst B dX10_of_59 (v := (-1)) (by decide) ?_
      obtain ⟨e1, e2⟩ := Prod.mk.inj (Option.some.inj h)
      subst e1
      subst e2
      exact j_iret B E rfl dX10_of_60 (Nat.le_refl _) (Nat.le_refl _) ⟨rfl, rfl, rfl, rfl⟩
    · replace h := h_pos (b2i_1 c) h
      refine j_aload_n B dX10_of_50 rfl 0 rfl ?_
      refine j_iload_n B dX10_of_51 rfl 2 rfl ?_
      refine j_iload_n B dX10_of_52 rfl 1 rfl ?_
      obtain ⟨r3, hr3, h⟩ := h_bind h
      refine j_cVI (rest := []) B (tX10_valueAt hW hr3) cls10 (wf_65 hW) jt_RX10_139 wi_X10_valueAt ws_X10_valueAt rfl (by decide) (Nat.le_refl _) (Nat.le_refl _) rfl (Nat.le_of_ble_eq_true rfl) dX10_of_53 ?_
      refine j_goto (tgt := 60) B dX10_of_56 (by decide) ?_
      obtain ⟨e1, e2⟩ := Prod.mk.inj (Option.some.inj h)
      subst e1
      subst e2
      exact j_iret B E rfl dX10_of_60 (Nat.le_refl _) (Nat.le_refl _) ⟨rfl, rfl, rfl, rfl⟩
  · replace h := h_pos (b2i_1 c) h
    refine j_aload_n B dX10_of_9 rfl 0 rfl ?_
    refine j_iload_n B dX10_of_10 rfl 1 rfl ?_
    obtain ⟨r4, hr4, h⟩ := h_bind h
    refine j_cVI (rest := []) B (tX10_isSill hW hr4) cls10 (wf_65 hW) jt_RX10_152 wi_X10_isSill ws_X10_isSill rfl (by decide) (Nat.le_refl _) (Nat.le_refl _) rfl (Nat.le_of_ble_eq_true rfl) dX10_of_11 ?_
    refine j_if_ne (tgt := 19) B dX10_of_14 (by decide) (fun c => ?_) (fun c => ?_)
    · replace h := h_pos (b2i_1 c) h
      refine j_aload_n B dX10_of_19 rfl 0 rfl ?_
      refine j_iload_n B dX10_of_20 rfl 1 rfl ?_
      obtain ⟨r5, hr5, h⟩ := h_bind h
      refine j_cVV (rest := []) B (tX10_layNow hW hr5) cls10 (wf_65 hW) jt_RX10_169 wi_X10_layNow ws_X10_layNow rfl (by decide) (Nat.le_refl _) (Nat.le_refl _) rfl (Nat.le_of_ble_eq_true rfl) dX10_of_21 ?_
      refine j_iload_n B dX10_of_24 rfl 2 rfl ?_
      refine j_iconst B dX10_of_25 (v := 4) (by decide) ?_
      refine j_icmp_ne (tgt := 36) B dX10_of_26 (by decide) (fun c => ?_) (fun c => ?_)
      · replace h := h_neg c h
        refine j_aload_n B dX10_of_36 rfl 0 rfl ?_
        obtain ⟨r6, hr6, h⟩ := h_bind h
        refine j_cVI (rest := []) B (tX10_allThick hW hr6) cls10 (wf_65 hW) jt_RX10_176 wi_X10_allThick ws_X10_allThick rfl (by decide) (Nat.le_refl _) (Nat.le_refl _) rfl (Nat.le_of_ble_eq_true rfl) dX10_of_37 ?_
        obtain ⟨e1, e2⟩ := Prod.mk.inj (Option.some.inj h)
        subst e1
        subst e2
        exact j_iret B E rfl dX10_of_40 (Nat.le_refl _) (Nat.le_refl _) ⟨rfl, rfl, rfl, rfl⟩
      · replace h := h_pos c h
        refine j_aload_n B dX10_of_29 rfl 0 rfl ?_
        refine gf_RX10_173 B rfl (wf_65 hW) dX10_of_30 ?_
        refine j_goto (tgt := 40) B dX10_of_33 (by decide) ?_
        obtain ⟨e1, e2⟩ := Prod.mk.inj (Option.some.inj h)
        subst e1
        subst e2
        exact j_iret B E rfl dX10_of_40 (Nat.le_refl _) (Nat.le_refl _) ⟨rfl, rfl, rfl, rfl⟩
    · replace h := h_neg (b2i_0 c) h
      refine j_iconst B dX10_of_17 (v := (-1)) (by decide) ?_
      obtain ⟨e1, e2⟩ := Prod.mk.inj (Option.some.inj h)
      subst e1
      subst e2
      exact j_iret B E rfl dX10_of_18 (Nat.le_refl _) (Nat.le_refl _) ⟨rfl, rfl, rfl, rfl⟩
def fX10_layer (x1 : Int32) (x2 : Int32) (x3 : Int32) (vi0 : VI) : Option (Int32) := (fX10_isSill x1 vi0).bind fun r1 => if r1 = true then if x2 < 0 then some ((-1)) else (fX10_in x3 0 1).bind fun r2 => if r2 = true then if inb x1 5 = true then if x2 < (vi0 67 x1.toNatClampNeg) then if x3 = 0 then if inb ((12 * x1) + x2) 60 = true then some ((vi0 68 ((12 * x1) + x2).toNatClampNeg)) else none else if inb ((12 * x1) + x2) 60 = true then some ((vi0 69 ((12 * x1) + x2).toNatClampNeg)) else none else some ((-2)) else none else some ((-1)) else some ((-1))
theorem tX10_layer {G : GT} {sv : SV} {vi0 : VI} {vl0 : VL} {ns : Nat} {x1 : Int32} {x2 : Int32} {x3 : Int32} {r : Int32} (hW : WF sv ns) (h : fX10_layer x1 x2 x3 vi0 = some (r)) : Call G mX10_layer 2 0 0 [.ref (G.1 + 63), .int x1, .int x2, .int x3] sv vi0 vl0 (QI r sv vi0 vl0) := by
  refine j_mk (by decide +kernel) (Nat.le_of_ble_eq_true rfl) (fun Γ B E => ?_)
  show J G Γ 0 0 0 [(0, .ref (G.1 + 63)), (1, .int x1), (2, .int x2), (3, .int x3)] [] sv vi0 vl0
  unfold fX10_layer at h
  refine j_aload_n B dX10_layer_0 rfl 0 rfl ?_
  refine j_iload_n B dX10_layer_1 rfl 1 rfl ?_
  obtain ⟨r1, hr1, h⟩ := h_bind h
  refine j_cVI (rest := []) B (tX10_isSill hW hr1) cls10 (wf_65 hW) jt_RX10_152 wi_X10_isSill ws_X10_isSill rfl (by decide) (Nat.le_refl _) (Nat.le_refl _) rfl (Nat.le_of_ble_eq_true rfl) dX10_layer_2 ?_
  refine j_if_eq (tgt := 21) B dX10_layer_5 (by decide) (fun c => ?_) (fun c => ?_)
  · replace h := h_neg (b2i_0 c) h
    refine j_iconst B dX10_layer_21 (v := (-1)) (by decide) ?_
    have e1 := Option.some.inj h
    subst e1
    exact j_iret B E rfl dX10_layer_22 (Nat.le_refl _) (Nat.le_refl _) ⟨rfl, rfl, rfl, rfl⟩
  · replace h := h_pos (b2i_1 c) h
    refine j_iload_n B dX10_layer_8 rfl 2 rfl ?_
    refine j_if_lt (tgt := 21) B dX10_layer_9 (by decide) (fun c => ?_) (fun c => ?_)
    · replace h := h_pos c h
      refine j_iconst B dX10_layer_21 (v := (-1)) (by decide) ?_
      have e1 := Option.some.inj h
      subst e1
      exact j_iret B E rfl dX10_layer_22 (Nat.le_refl _) (Nat.le_refl _) ⟨rfl, rfl, rfl, rfl⟩
    · replace h := h_neg c h
      refine j_iload_n B dX10_layer_12 rfl 3 rfl ?_
      refine j_iconst B dX10_layer_13 (v := 0) (by decide) ?_
      refine j_iconst B dX10_layer_14 (v := 1) (by decide) ?_
      obtain ⟨r2, hr2, h⟩ := h_bind h
      refine j_cSI (rest := []) B (tX10_in hr2) jt_RX10_124 wst_X10_in rfl (by decide) (Nat.le_refl _) (Nat.le_refl _) rfl (Nat.le_of_ble_eq_true rfl) dX10_layer_15 ?_
      refine j_if_ne (tgt := 23) B dX10_layer_18 (by decide) (fun c => ?_) (fun c => ?_)
      · replace h := h_pos (b2i_1 c) h
        refine j_iload_n B dX10_layer_23 rfl 2 rfl ?_
        refine j_aload_n B dX10_layer_24 rfl 0 rfl ?_
        refine gf_RX10_21 B rfl (wf_65 hW) (wf_165 hW) dX10_layer_25 ?_
        refine j_iload_n B dX10_layer_28 rfl 1 rfl ?_
        obtain ⟨b3, h⟩ := h_inb h
        refine j_iald B ((wf_69 hW)) b3 dX10_layer_29 ?_
        refine j_icmp_lt (tgt := 36) B dX10_layer_30 (by decide) (fun c => ?_) (fun c => ?_)
        · replace h := h_pos c h
          refine j_iload_n B dX10_layer_36 rfl 3 rfl ?_
          refine j_if_ne (tgt := 54) B dX10_layer_37 (by decide) (fun c => ?_) (fun c => ?_)
          · replace h := h_neg c h
            refine j_aload_n B dX10_layer_54 rfl 0 rfl ?_
            refine gf_RX10_27 B rfl (wf_65 hW) (wf_167 hW) dX10_layer_55 ?_
            refine j_bipush B dX10_layer_58 (v := 12) (by decide) ?_
            refine j_iload_n B dX10_layer_60 rfl 1 rfl ?_
            refine j_imul B dX10_layer_61 ?_
            refine j_iload_n B dX10_layer_62 rfl 2 rfl ?_
            refine j_iadd B dX10_layer_63 ?_
            obtain ⟨b4, h⟩ := h_inb h
            refine j_iald B ((wf_71 hW)) b4 dX10_layer_64 ?_
            have e1 := Option.some.inj h
            subst e1
            exact j_iret B E rfl dX10_layer_65 (Nat.le_refl _) (Nat.le_refl _) ⟨rfl, rfl, rfl, rfl⟩
          · replace h := h_pos c h
            refine j_aload_n B dX10_layer_40 rfl 0 rfl ?_
            refine gf_RX10_24 B rfl (wf_65 hW) (wf_166 hW) dX10_layer_41 ?_
            refine j_bipush B dX10_layer_44 (v := 12) (by decide) ?_
            refine j_iload_n B dX10_layer_46 rfl 1 rfl ?_
            refine j_imul B dX10_layer_47 ?_
            refine j_iload_n B dX10_layer_48 rfl 2 rfl ?_
            refine j_iadd B dX10_layer_49 ?_
            obtain ⟨b5, h⟩ := h_inb h
            refine j_iald B ((wf_70 hW)) b5 dX10_layer_50 ?_
            refine j_goto (tgt := 65) B dX10_layer_51 (by decide) ?_
            have e1 := Option.some.inj h
            subst e1
            exact j_iret B E rfl dX10_layer_65 (Nat.le_refl _) (Nat.le_refl _) ⟨rfl, rfl, rfl, rfl⟩
        · replace h := h_neg c h
          refine j_bipush B dX10_layer_33 (v := (-2)) (by decide) ?_
          have e1 := Option.some.inj h
          subst e1
          exact j_iret B E rfl dX10_layer_35 (Nat.le_refl _) (Nat.le_refl _) ⟨rfl, rfl, rfl, rfl⟩
      · replace h := h_neg (b2i_0 c) h
        refine j_iconst B dX10_layer_21 (v := (-1)) (by decide) ?_
        have e1 := Option.some.inj h
        subst e1
        exact j_iret B E rfl dX10_layer_22 (Nat.le_refl _) (Nat.le_refl _) ⟨rfl, rfl, rfl, rfl⟩
def fX10_feed (x1 : Int32) (vi0 : VI) : Option (Int32 × VI) := (fX10_in x1 0 255).bind fun r1 => if r1 = true then if (vi0 63 16) = 120 then some ((-3), vi0) else if inb (vi0 63 16) 120 = true then some (((j_up (j_up vi0 74 (vi0 63 16).toNatClampNeg (x1.toInt8.toInt32 : Int32).toInt8.toInt32) 63 16 (((j_up vi0 74 (vi0 63 16).toNatClampNeg (x1.toInt8.toInt32 : Int32).toInt8.toInt32) 63 16) + 1)) 63 16), (j_up (j_up vi0 74 (vi0 63 16).toNatClampNeg (x1.toInt8.toInt32 : Int32).toInt8.toInt32) 63 16 (((j_up vi0 74 (vi0 63 16).toNatClampNeg (x1.toInt8.toInt32 : Int32).toInt8.toInt32) 63 16) + 1))) else none else some ((-1), vi0)
theorem tX10_feed {G : GT} {sv : SV} {vi0 : VI} {vl0 : VL} {ns : Nat} {x1 : Int32} {r : Int32} {vi' : VI} (hW : WF sv ns) (h : fX10_feed x1 vi0 = some (r, vi')) : Call G mX10_feed 1 0 0 [.ref (G.1 + 63), .int x1] sv vi0 vl0 (QI r sv vi' vl0) := by
  refine j_mk (by decide +kernel) (Nat.le_of_ble_eq_true rfl) (fun Γ B E => ?_)
  show J G Γ 0 0 0 [(0, .ref (G.1 + 63)), (1, .int x1)] [] sv vi0 vl0
  unfold fX10_feed at h
  refine j_iload_n B dX10_feed_0 rfl 1 rfl ?_
  refine j_iconst B dX10_feed_1 (v := 0) (by decide) ?_
  refine j_sipush B dX10_feed_2 (v := 255) (by decide) ?_
  obtain ⟨r1, hr1, h⟩ := h_bind h
  refine j_cSI (rest := []) B (tX10_in hr1) jt_RX10_124 wst_X10_in rfl (by decide) (Nat.le_refl _) (Nat.le_refl _) rfl (Nat.le_of_ble_eq_true rfl) dX10_feed_5 ?_
  refine j_if_ne (tgt := 13) B dX10_feed_8 (by decide) (fun c => ?_) (fun c => ?_)
  · replace h := h_pos (b2i_1 c) h
    refine j_aload_n B dX10_feed_13 rfl 0 rfl ?_
    refine gf_RX10_180 B rfl (wf_65 hW) dX10_feed_14 ?_
    refine j_bipush B dX10_feed_17 (v := 120) (by decide) ?_
    refine j_icmp_ne (tgt := 25) B dX10_feed_19 (by decide) (fun c => ?_) (fun c => ?_)
    · replace h := h_neg c h
      refine j_aload_n B dX10_feed_25 rfl 0 rfl ?_
      refine gf_RX10_42 B rfl (wf_65 hW) (wf_172 hW) dX10_feed_26 ?_
      refine j_aload_n B dX10_feed_29 rfl 0 rfl ?_
      refine gf_RX10_180 B rfl (wf_65 hW) dX10_feed_30 ?_
      refine j_iload_n B dX10_feed_33 rfl 1 rfl ?_
      refine j_i2b B dX10_feed_34 ?_
      obtain ⟨b2, h⟩ := h_inb h
      refine j_bast B ((wf_76 hW)) b2 dX10_feed_35 ?_
      refine j_aload_n B dX10_feed_36 rfl 0 rfl ?_
      refine j_dup B dX10_feed_37 rfl ?_
      refine gf_RX10_180 B rfl (wf_65 hW) dX10_feed_38 ?_
      refine j_iconst B dX10_feed_41 (v := 1) (by decide) ?_
      refine j_iadd B dX10_feed_42 ?_
      refine pf_RX10_180 B rfl (wf_65 hW) dX10_feed_43 ?_
      refine j_aload_n B dX10_feed_46 rfl 0 rfl ?_
      refine gf_RX10_180 B rfl (wf_65 hW) dX10_feed_47 ?_
      obtain ⟨e1, e2⟩ := Prod.mk.inj (Option.some.inj h)
      subst e1
      subst e2
      exact j_iret B E rfl dX10_feed_50 (Nat.le_refl _) (Nat.le_refl _) ⟨rfl, rfl, rfl, rfl⟩
    · replace h := h_pos c h
      refine j_bipush B dX10_feed_22 (v := (-3)) (by decide) ?_
      obtain ⟨e1, e2⟩ := Prod.mk.inj (Option.some.inj h)
      subst e1
      subst e2
      exact j_iret B E rfl dX10_feed_24 (Nat.le_refl _) (Nat.le_refl _) ⟨rfl, rfl, rfl, rfl⟩
  · replace h := h_neg (b2i_0 c) h
    refine j_iconst B dX10_feed_11 (v := (-1)) (by decide) ?_
    obtain ⟨e1, e2⟩ := Prod.mk.inj (Option.some.inj h)
    subst e1
    subst e2
    exact j_iret B E rfl dX10_feed_12 (Nat.le_refl _) (Nat.le_refl _) ⟨rfl, rfl, rfl, rfl⟩
