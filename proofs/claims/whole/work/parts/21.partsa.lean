def fX0_add (x1 : Int32) (vi0 : VI) : Option (Int32 × VI) := if (vi0 47 1) < 50 then if inb (vi0 47 1) 50 = true then some ((((j_up (j_up vi0 48 (vi0 47 1).toNatClampNeg x1) 47 1 (((j_up vi0 48 (vi0 47 1).toNatClampNeg x1) 47 1) + 1)) 47 1) - 1), (j_up (j_up vi0 48 (vi0 47 1).toNatClampNeg x1) 47 1 (((j_up vi0 48 (vi0 47 1).toNatClampNeg x1) 47 1) + 1))) else none else some ((-3), vi0)
theorem tX0_add {G : GT} {sv : SV} {vi0 : VI} {vl0 : VL} {ns : Nat} {x1 : Int32} {r : Int32} {vi' : VI} (hW : WF sv ns) (h : fX0_add x1 vi0 = some (r, vi')) : Call G mX0_add 0 0 0 [.ref (G.1 + 47), .int x1] sv vi0 vl0 (QI r sv vi' vl0) := by
  refine j_mk (by decide +kernel) (Nat.le_of_ble_eq_true rfl) (fun Γ B E => ?_)
  show J G Γ 0 0 0 [(0, .ref (G.1 + 47)), (1, .int x1)] [] sv vi0 vl0
  unfold fX0_add at h
  refine j_aload_n B dX0_add_0 rfl 0 rfl ?_
  refine gf_RX0_18 B rfl (wf_49 hW) dX0_add_1 ?_
  refine j_bipush B dX0_add_4 (v := 50) (by decide) ?_
  refine j_icmp_lt (tgt := 12) B dX0_add_6 (by decide) (fun c => ?_) (fun c => ?_)
  · replace h := h_pos c h
    refine j_aload_n B dX0_add_12 rfl 0 rfl ?_
    refine gf_RX0_9 B rfl (wf_49 hW) (wf_147 hW) dX0_add_13 ?_
    refine j_aload_n B dX0_add_16 rfl 0 rfl ?_
    refine gf_RX0_18 B rfl (wf_49 hW) dX0_add_17 ?_
    refine j_iload_n B dX0_add_20 rfl 1 rfl ?_
    obtain ⟨b1, h⟩ := h_inb h
    refine j_iast B ((wf_50 hW)) b1 dX0_add_21 ?_
    refine j_aload_n B dX0_add_22 rfl 0 rfl ?_
    refine j_dup B dX0_add_23 rfl ?_
    refine gf_RX0_18 B rfl (wf_49 hW) dX0_add_24 ?_
    refine j_iconst B dX0_add_27 (v := 1) (by decide) ?_
    refine j_iadd B dX0_add_28 ?_
    refine pf_RX0_18 B rfl (wf_49 hW) dX0_add_29 ?_
    refine j_aload_n B dX0_add_32 rfl 0 rfl ?_
    refine gf_RX0_18 B rfl (wf_49 hW) dX0_add_33 ?_
    refine j_iconst B dX0_add_36 (v := 1) (by decide) ?_
    refine j_isub B dX0_add_37 ?_
    obtain ⟨e1, e2⟩ := Prod.mk.inj (Option.some.inj h)
    subst e1
    subst e2
    exact j_iret B E rfl dX0_add_38 (Nat.le_refl _) (Nat.le_refl _) ⟨rfl, rfl, rfl, rfl⟩
  · replace h := h_neg c h
    refine j_bipush B dX0_add_9 (v := (-3)) (by decide) ?_
    obtain ⟨e1, e2⟩ := Prod.mk.inj (Option.some.inj h)
    subst e1
    subst e2
    exact j_iret B E rfl dX0_add_11 (Nat.le_refl _) (Nat.le_refl _) ⟨rfl, rfl, rfl, rfl⟩
def fX0_has (x1 : Int32) (vi0 : VI) : Option (Bool) := if x1 < 0 then some (false) else if (vi0 47 1) ≤ x1 then some (false) else if 50 ≤ x1 then some (false) else some (true)
theorem tX0_has {G : GT} {sv : SV} {vi0 : VI} {vl0 : VL} {ns : Nat} {x1 : Int32} {r : Bool} (hW : WF sv ns) (h : fX0_has x1 vi0 = some (r)) : Call G mX0_has 0 0 0 [.ref (G.1 + 47), .int x1] sv vi0 vl0 (QI (b2i r) sv vi0 vl0) := by
  refine j_mk (by decide +kernel) (Nat.le_of_ble_eq_true rfl) (fun Γ B E => ?_)
  show J G Γ 0 0 0 [(0, .ref (G.1 + 47)), (1, .int x1)] [] sv vi0 vl0
  unfold fX0_has at h
  refine j_iload_n B dX0_has_0 rfl 1 rfl ?_
  refine j_if_lt (tgt := 22) B dX0_has_1 (by decide) (fun c => ?_) (fun c => ?_)
  · replace h := h_pos c h
    refine j_iconst B dX0_has_22 (v := 0) (by decide) ?_
    have e1 := Option.some.inj h
    subst e1
    exact j_zret B E rfl (Or.inl rfl) dX0_has_23 (Nat.le_refl _) (Nat.le_refl _) ⟨rfl, rfl, rfl, rfl⟩
  · replace h := h_neg c h
    refine j_iload_n B dX0_has_4 rfl 1 rfl ?_
    refine j_aload_n B dX0_has_5 rfl 0 rfl ?_
    refine gf_RX0_18 B rfl (wf_49 hW) dX0_has_6 ?_
    refine j_icmp_ge (tgt := 22) B dX0_has_9 (by decide) (fun c => ?_) (fun c => ?_)
    · replace h := h_pos c h
      refine j_iconst B dX0_has_22 (v := 0) (by decide) ?_
      have e1 := Option.some.inj h
      subst e1
      exact j_zret B E rfl (Or.inl rfl) dX0_has_23 (Nat.le_refl _) (Nat.le_refl _) ⟨rfl, rfl, rfl, rfl⟩
    · replace h := h_neg c h
      refine j_iload_n B dX0_has_12 rfl 1 rfl ?_
      refine j_bipush B dX0_has_13 (v := 50) (by decide) ?_
      refine j_icmp_ge (tgt := 22) B dX0_has_15 (by decide) (fun c => ?_) (fun c => ?_)
      · replace h := h_pos c h
        refine j_iconst B dX0_has_22 (v := 0) (by decide) ?_
        have e1 := Option.some.inj h
        subst e1
        exact j_zret B E rfl (Or.inl rfl) dX0_has_23 (Nat.le_refl _) (Nat.le_refl _) ⟨rfl, rfl, rfl, rfl⟩
      · replace h := h_neg c h
        refine j_iconst B dX0_has_18 (v := 1) (by decide) ?_
        refine j_goto (tgt := 23) B dX0_has_19 (by decide) ?_
        have e1 := Option.some.inj h
        subst e1
        exact j_zret B E rfl (Or.inr rfl) dX0_has_23 (Nat.le_refl _) (Nat.le_refl _) ⟨rfl, rfl, rfl, rfl⟩
def fX0_isUnder_4 (vi0 : VI) : Nat → Int32 → Int32 → Int32 → Option (Bool)
  | 0, _, _, _ => none
  | F + 1, x1, x2, x3 => if 8 ≤ x3 then some (false) else if x2 < 0 then some (false) else if x2 = x1 then some (true) else if inb x2 8 = true then fX0_isUnder_4 vi0 F x1 (j_abv x2.toNatClampNeg) (x3 + 1) else none
theorem tX0_isUnder_4 {G : GT} {sv : SV} {vi0 : VI} {vl0 : VL} {Γ : CT} {r : Bool} (B : Base G Γ mX0_isUnder 0 0 0) (E : Ends G Γ 0 0 (QI (b2i r) sv vi0 vl0)) : ∀ (F : Nat) (x1 : Int32) (x2 : Int32) (x3 : Int32), fX0_isUnder_4 vi0 F x1 x2 x3 = some (r) → J G Γ 0 0 4 [(1, .int x1), (2, .int x2), (3, .int x3)] [] sv vi0 vl0 := by
  intro F
  induction F with
  | zero =>
    intro x1 x2 x3  h
    cases (show (none : Option (Bool)) = some (r) from h)
  | succ F ih =>
    intro x1 x2 x3  h
    rw [fX0_isUnder_4] at h
    refine j_iload_n B dX0_isUnder_4 rfl 2 rfl ?_
    refine j_bipush B dX0_isUnder_5 (v := 8) (by decide) ?_
    refine j_icmp_ge (tgt := 33) B dX0_isUnder_7 (by decide) (fun c => ?_) (fun c => ?_)
    · replace h := h_pos c h
      refine j_iconst B dX0_isUnder_33 (v := 0) (by decide) ?_
      have e1 := Option.some.inj h
      subst e1
      exact j_zret B E rfl (Or.inl rfl) dX0_isUnder_34 (Nat.le_refl _) (Nat.le_refl _) ⟨rfl, rfl, rfl, rfl⟩
    · replace h := h_neg c h
      refine j_iload_n B dX0_isUnder_10 rfl 1 rfl ?_
      refine j_if_lt (tgt := 33) B dX0_isUnder_11 (by decide) (fun c => ?_) (fun c => ?_)
      · replace h := h_pos c h
        refine j_iconst B dX0_isUnder_33 (v := 0) (by decide) ?_
        have e1 := Option.some.inj h
        subst e1
        exact j_zret B E rfl (Or.inl rfl) dX0_isUnder_34 (Nat.le_refl _) (Nat.le_refl _) ⟨rfl, rfl, rfl, rfl⟩
      · replace h := h_neg c h
        refine j_iload_n B dX0_isUnder_14 rfl 1 rfl ?_
        refine j_iload_n B dX0_isUnder_15 rfl 0 rfl ?_
        refine j_icmp_ne (tgt := 21) B dX0_isUnder_16 (by decide) (fun c => ?_) (fun c => ?_)
        · replace h := h_neg c h
          refine j_getAbv B fl_RX0_22 dX0_isUnder_21 ?_
          refine j_iload_n B dX0_isUnder_24 rfl 1 rfl ?_
          obtain ⟨b1, h⟩ := h_inb h
          refine j_ldAbv B b1 dX0_isUnder_25 ?_
          refine j_istore_n (L' := [(2, .int (j_abv x2.toNatClampNeg)), (1, .int x1), (3, .int x3)]) B dX0_isUnder_26 rfl (by decide) rfl ?_
          refine j_iinc (v := (x3 + 1)) (L' := [(3, .int (x3 + 1)), (2, .int (j_abv x2.toNatClampNeg)), (1, .int x1)]) B dX0_isUnder_27 2 rfl rfl (by decide) rfl ?_
          refine j_goto (tgt := 4) B dX0_isUnder_30 (by decide) ?_
          refine j_locals [2, 1, 0] rfl ?_
          exact ih (x1) ((j_abv x2.toNatClampNeg)) ((x3 + 1))  h
        · replace h := h_pos c h
          refine j_iconst B dX0_isUnder_19 (v := 1) (by decide) ?_
          have e1 := Option.some.inj h
          subst e1
          exact j_zret B E rfl (Or.inr rfl) dX0_isUnder_20 (Nat.le_refl _) (Nat.le_refl _) ⟨rfl, rfl, rfl, rfl⟩
def fX0_isUnder (x0 : Int32) (x1 : Int32) (vi0 : VI) : Option (Bool) := fX0_isUnder_4 vi0 FU x1 x0 0
theorem tX0_isUnder {G : GT} {sv : SV} {vi0 : VI} {vl0 : VL} {x0 : Int32} {x1 : Int32} {r : Bool} (h : fX0_isUnder x0 x1 vi0 = some (r)) : Call G mX0_isUnder 0 0 0 [.int x0, .int x1] sv vi0 vl0 (QI (b2i r) sv vi0 vl0) := by
  refine j_mk (by decide +kernel) (Nat.le_of_ble_eq_true rfl) (fun Γ B E => ?_)
  show J G Γ 0 0 0 [(0, .int x0), (1, .int x1)] [] sv vi0 vl0
  unfold fX0_isUnder at h
  refine j_iload_n B dX0_isUnder_0 rfl 0 rfl ?_
  refine j_istore_n (L' := [(2, .int x0), (0, .int x0), (1, .int x1)]) B dX0_isUnder_1 rfl (by decide) rfl ?_
  refine j_iconst B dX0_isUnder_2 (v := 0) (by decide) ?_
  refine j_istore_n (L' := [(3, .int 0), (2, .int x0), (0, .int x0), (1, .int x1)]) B dX0_isUnder_3 rfl (by decide) rfl ?_
  refine j_locals [3, 1, 0] rfl ?_
  exact tX0_isUnder_4 B E  FU (x1) (x0) (0)  h
def fX0_run_91 (rec : Nat → Int32 → Int32 → Int32 → Int32 → Int32 → VI → Option (Int32 × VI)) (x1 : Int32) (x4 : Int32) (x5 : Int32) (x6 : Int32) (x7 : Int32) (vi : VI) : Option (Int32 × VI) := if inb x6 8 = true then (rec 1 x7 x1 (j_abv x6.toNatClampNeg) x4 (x5 + 1) (j_up vi 47 3 ((vi 47 3) + 1))).bind fun r3 => some (r3.1, r3.2) else none
theorem tX0_run_91 {G : GT} {sv : SV} {vl0 : VL} {ns : Nat} {D : Nat} {rec : Nat → Int32 → Int32 → Int32 → Int32 → Int32 → VI → Option (Int32 × VI)} {Γ : CT} {r : Int32} {vi' : VI} (B : Base G Γ mX0_run (D + 1) 0 0) (E : Ends G Γ 0 0 (QI r sv vi' vl0)) (hW : WF sv ns) (hR : (∀ {a0 a1 a2 a3 a4 : Int32} {vi : VI} {r : Int32 × VI}, rec 0 a0 a1 a2 a3 a4 vi = some r → Call G mX0_run D 0 0 [.ref (G.1 + 47), .int a0, .int a1, .int a2, .int a3, .int a4] sv vi vl0 (QI r.1 sv r.2 vl0)) ∧ (∀ {a0 a1 a2 a3 a4 : Int32} {vi : VI} {r : Int32 × VI}, rec 1 a0 a1 a2 a3 a4 vi = some r → Call G mX0_worked D 0 0 [.ref (G.1 + 47), .int a0, .int a1, .int a2, .int a3, .int a4] sv vi vl0 (QI r.1 sv r.2 vl0))) (hD : 0 ≤ D) : ∀ (x1 : Int32) (x4 : Int32) (x5 : Int32) (x6 : Int32) (x7 : Int32) (vi : VI), fX0_run_91 rec x1 x4 x5 x6 x7 vi = some (r, vi') → J G Γ 0 0 91 [(0, .ref (G.1 + 47)), (1, .int x1), (4, .int x4), (5, .int x5), (6, .int x6), (7, .int x7)] [] sv vi vl0 := by
  intro x1 x4 x5 x6 x7 vi  h
  unfold fX0_run_91 at h
  refine j_aload_n B dX0_run_91 rfl 0 rfl ?_
  refine j_dup B dX0_run_92 rfl ?_
  refine gf_RX0_28 B rfl (wf_49 hW) dX0_run_93 ?_
  refine j_iconst B dX0_run_96 (v := 1) (by decide) ?_
  refine j_iadd B dX0_run_97 ?_
  refine pf_RX0_28 B rfl (wf_49 hW) dX0_run_98 ?_
  refine j_aload_n B dX0_run_101 rfl 0 rfl ?_
  refine j_iload B dX0_run_102 5 rfl ?_
  refine j_iload_n B dX0_run_104 rfl 1 rfl ?_
  refine j_getAbv B fl_RX0_22 dX0_run_105 ?_
  refine j_iload B dX0_run_108 4 rfl ?_
  obtain ⟨b2, h⟩ := h_inb h
  refine j_ldAbv B b2 dX0_run_110 ?_
  refine j_iload B dX0_run_111 2 rfl ?_
  refine j_iload B dX0_run_113 3 rfl ?_
  refine j_iconst B dX0_run_115 (v := 1) (by decide) ?_
  refine j_iadd B dX0_run_116 ?_
  obtain ⟨r3, hr3, h⟩ := h_bind h
  refine j_cVI (rest := []) B (hR.2  hr3) cls0 (wf_49 hW) jt_RX0_31 wi_X0_worked ws_X0_worked rfl (by omega) (Nat.le_refl _) (Nat.le_refl _) rfl (Nat.le_of_ble_eq_true rfl) dX0_run_117 ?_
  obtain ⟨e1, e2⟩ := Prod.mk.inj (Option.some.inj h)
  subst e1
  subst e2
  exact j_iret B E rfl dX0_run_120 (Nat.le_refl _) (Nat.le_refl _) ⟨rfl, rfl, rfl, rfl⟩
def fX0_run_45 (rec : Nat → Int32 → Int32 → Int32 → Int32 → Int32 → VI → Option (Int32 × VI)) (x1 : Int32) (x3 : Int32) (x4 : Int32) (x5 : Int32) (x6 : Int32) (vi : VI) : Option (Int32 × VI) := if x6 < 0 then some (0, vi) else if x5 < 40 then if inb ((x6 * 4) + x3) 32 = true then if 24 ≤ (vi 47 3) then fX0_run_91 rec x1 x4 x5 x6 (j_own ((x6 * 4) + x3).toNatClampNeg) vi else if inb (vi 47 3) 24 = true then fX0_run_91 rec x1 x4 x5 x6 (j_own ((x6 * 4) + x3).toNatClampNeg) (j_up vi 49 (vi 47 3).toNatClampNeg (j_own ((x6 * 4) + x3).toNatClampNeg)) else none else none else some (0, vi)
theorem tX0_run_45 {G : GT} {sv : SV} {vl0 : VL} {ns : Nat} {D : Nat} {rec : Nat → Int32 → Int32 → Int32 → Int32 → Int32 → VI → Option (Int32 × VI)} {Γ : CT} {r : Int32} {vi' : VI} (B : Base G Γ mX0_run (D + 1) 0 0) (E : Ends G Γ 0 0 (QI r sv vi' vl0)) (hW : WF sv ns) (hR : (∀ {a0 a1 a2 a3 a4 : Int32} {vi : VI} {r : Int32 × VI}, rec 0 a0 a1 a2 a3 a4 vi = some r → Call G mX0_run D 0 0 [.ref (G.1 + 47), .int a0, .int a1, .int a2, .int a3, .int a4] sv vi vl0 (QI r.1 sv r.2 vl0)) ∧ (∀ {a0 a1 a2 a3 a4 : Int32} {vi : VI} {r : Int32 × VI}, rec 1 a0 a1 a2 a3 a4 vi = some r → Call G mX0_worked D 0 0 [.ref (G.1 + 47), .int a0, .int a1, .int a2, .int a3, .int a4] sv vi vl0 (QI r.1 sv r.2 vl0))) (hD : 0 ≤ D) : ∀ (x1 : Int32) (x3 : Int32) (x4 : Int32) (x5 : Int32) (x6 : Int32) (vi : VI), fX0_run_45 rec x1 x3 x4 x5 x6 vi = some (r, vi') → J G Γ 0 0 45 [(0, .ref (G.1 + 47)), (1, .int x1), (3, .int x3), (4, .int x4), (5, .int x5), (6, .int x6)] [] sv vi vl0 := by
  intro x1 x3 x4 x5 x6 vi  h
  unfold fX0_run_45 at h
  refine j_iload B dX0_run_45 5 rfl ?_
  refine j_if_lt (tgt := 57) B dX0_run_47 (by decide) (fun c => ?_) (fun c => ?_)
  · replace h := h_pos c h
    refine j_iconst B dX0_run_57 (v := 0) (by decide) ?_
    obtain ⟨e1, e2⟩ := Prod.mk.inj (Option.some.inj h)
    subst e1
    subst e2
    exact j_iret B E rfl dX0_run_58 (Nat.le_refl _) (Nat.le_refl _) ⟨rfl, rfl, rfl, rfl⟩
  · replace h := h_neg c h
    refine j_iload B dX0_run_50 4 rfl ?_
    refine j_bipush B dX0_run_52 (v := 40) (by decide) ?_
    refine j_icmp_lt (tgt := 59) B dX0_run_54 (by decide) (fun c => ?_) (fun c => ?_)
    · replace h := h_pos c h
      refine j_getOwn B fl_RX0_25 dX0_run_59 ?_
      refine j_iload B dX0_run_62 5 rfl ?_
      refine j_iconst B dX0_run_64 (v := 4) (by decide) ?_
      refine j_imul B dX0_run_65 ?_
      refine j_iload_n B dX0_run_66 rfl 2 rfl ?_
      refine j_iadd B dX0_run_67 ?_
      obtain ⟨b1, h⟩ := h_inb h
      refine j_ldOwn B b1 dX0_run_68 ?_
      refine j_istore (L' := [(7, .int (j_own ((x6 * 4) + x3).toNatClampNeg)), (0, .ref (G.1 + 47)), (1, .int x1), (3, .int x3), (4, .int x4), (5, .int x5), (6, .int x6)]) B dX0_run_69 (by decide) rfl ?_
      refine j_aload_n B dX0_run_71 rfl 1 rfl ?_
      refine gf_RX0_28 B rfl (wf_49 hW) dX0_run_72 ?_
      refine j_bipush B dX0_run_75 (v := 24) (by decide) ?_
      refine j_icmp_ge (tgt := 91) B dX0_run_77 (by decide) (fun c => ?_) (fun c => ?_)
      · replace h := h_pos c h
        refine j_locals [1, 2, 4, 5, 6, 0] rfl ?_
        exact tX0_run_91 B E hW hR hD (x1) (x4) (x5) (x6) ((j_own ((x6 * 4) + x3).toNatClampNeg)) (vi)  h
      · replace h := h_neg c h
        refine j_aload_n B dX0_run_80 rfl 1 rfl ?_
        refine gf_RX0_15 B rfl (wf_49 hW) (wf_148 hW) dX0_run_81 ?_
        refine j_aload_n B dX0_run_84 rfl 1 rfl ?_
        refine gf_RX0_28 B rfl (wf_49 hW) dX0_run_85 ?_
        refine j_iload B dX0_run_88 0 rfl ?_
        obtain ⟨b4, h⟩ := h_inb h
        refine j_iast B ((wf_51 hW)) b4 dX0_run_90 ?_
        refine j_locals [1, 2, 4, 5, 6, 0] rfl ?_
        exact tX0_run_91 B E hW hR hD (x1) (x4) (x5) (x6) ((j_own ((x6 * 4) + x3).toNatClampNeg)) ((j_up vi 49 (vi 47 3).toNatClampNeg (j_own ((x6 * 4) + x3).toNatClampNeg)))  h
    · replace h := h_neg c h
      refine j_iconst B dX0_run_57 (v := 0) (by decide) ?_
      obtain ⟨e1, e2⟩ := Prod.mk.inj (Option.some.inj h)
      subst e1
      subst e2
      exact j_iret B E rfl dX0_run_58 (Nat.le_refl _) (Nat.le_refl _) ⟨rfl, rfl, rfl, rfl⟩
def fX0_run_6 (rec : Nat → Int32 → Int32 → Int32 → Int32 → Int32 → VI → Option (Int32 × VI)) : Nat → Int32 → Int32 → Int32 → Int32 → Int32 → Int32 → VI → Option (Int32 × VI)
  | 0, _, _, _, _, _, _, _ => none
  | F + 1, x1, x3, x4, x5, x6, x7, vi => if 8 ≤ x7 then fX0_run_45 rec x1 x3 x4 x5 x6 vi else if x6 < 0 then fX0_run_45 rec x1 x3 x4 x5 x6 vi else if inb ((x6 * 4) + x3) 32 = true then if (j_own ((x6 * 4) + x3).toNatClampNeg) = 0 then if inb x6 8 = true then fX0_run_6 rec F x1 x3 x4 x5 (j_abv x6.toNatClampNeg) (x7 + 1) vi else none else fX0_run_45 rec x1 x3 x4 x5 x6 vi else none
theorem tX0_run_6 {G : GT} {sv : SV} {vl0 : VL} {ns : Nat} {D : Nat} {rec : Nat → Int32 → Int32 → Int32 → Int32 → Int32 → VI → Option (Int32 × VI)} {Γ : CT} {r : Int32} {vi' : VI} (B : Base G Γ mX0_run (D + 1) 0 0) (E : Ends G Γ 0 0 (QI r sv vi' vl0)) (hW : WF sv ns) (hR : (∀ {a0 a1 a2 a3 a4 : Int32} {vi : VI} {r : Int32 × VI}, rec 0 a0 a1 a2 a3 a4 vi = some r → Call G mX0_run D 0 0 [.ref (G.1 + 47), .int a0, .int a1, .int a2, .int a3, .int a4] sv vi vl0 (QI r.1 sv r.2 vl0)) ∧ (∀ {a0 a1 a2 a3 a4 : Int32} {vi : VI} {r : Int32 × VI}, rec 1 a0 a1 a2 a3 a4 vi = some r → Call G mX0_worked D 0 0 [.ref (G.1 + 47), .int a0, .int a1, .int a2, .int a3, .int a4] sv vi vl0 (QI r.1 sv r.2 vl0))) (hD : 0 ≤ D) : ∀ (F : Nat) (x1 : Int32) (x3 : Int32) (x4 : Int32) (x5 : Int32) (x6 : Int32) (x7 : Int32) (vi : VI), fX0_run_6 rec F x1 x3 x4 x5 x6 x7 vi = some (r, vi') → J G Γ 0 0 6 [(0, .ref (G.1 + 47)), (1, .int x1), (3, .int x3), (4, .int x4), (5, .int x5), (6, .int x6), (7, .int x7)] [] sv vi vl0 := by
  intro F
  induction F with
  | zero =>
    intro x1 x3 x4 x5 x6 x7 vi  h
    cases (show (none : Option (Int32 × VI)) = some (r, vi') from h)
  | succ F ih =>
    intro x1 x3 x4 x5 x6 x7 vi  h
    rw [fX0_run_6] at h
    refine j_iload B dX0_run_6 6 rfl ?_
    refine j_bipush B dX0_run_8 (v := 8) (by decide) ?_
    refine j_icmp_ge (tgt := 45) B dX0_run_10 (by decide) (fun c => ?_) (fun c => ?_)
    · replace h := h_pos c h
      refine j_locals [0, 1, 2, 3, 4, 5] rfl ?_
      exact tX0_run_45 B E hW hR hD (x1) (x3) (x4) (x5) (x6) (vi)  h
    · replace h := h_neg c h
      refine j_iload B dX0_run_13 5 rfl ?_
      refine j_if_lt (tgt := 45) B dX0_run_15 (by decide) (fun c => ?_) (fun c => ?_)
      · replace h := h_pos c h
        refine j_locals [0, 1, 2, 3, 4, 5] rfl ?_
        exact tX0_run_45 B E hW hR hD (x1) (x3) (x4) (x5) (x6) (vi)  h
      · replace h := h_neg c h
        refine j_getOwn B fl_RX0_25 dX0_run_18 ?_
        refine j_iload B dX0_run_21 5 rfl ?_
        refine j_iconst B dX0_run_23 (v := 4) (by decide) ?_
        refine j_imul B dX0_run_24 ?_
        refine j_iload_n B dX0_run_25 rfl 2 rfl ?_
        refine j_iadd B dX0_run_26 ?_
        obtain ⟨b5, h⟩ := h_inb h
        refine j_ldOwn B b5 dX0_run_27 ?_
        refine j_if_ne (tgt := 45) B dX0_run_28 (by decide) (fun c => ?_) (fun c => ?_)
        · replace h := h_neg c h
          refine j_locals [0, 1, 2, 3, 4, 5] rfl ?_
          exact tX0_run_45 B E hW hR hD (x1) (x3) (x4) (x5) (x6) (vi)  h
        · replace h := h_pos c h
          refine j_getAbv B fl_RX0_22 dX0_run_31 ?_
          refine j_iload B dX0_run_34 5 rfl ?_
          obtain ⟨b6, h⟩ := h_inb h
          refine j_ldAbv B b6 dX0_run_36 ?_
          refine j_istore (L' := [(6, .int (j_abv x6.toNatClampNeg)), (0, .ref (G.1 + 47)), (1, .int x1), (3, .int x3), (4, .int x4), (5, .int x5), (7, .int x7)]) B dX0_run_37 (by decide) rfl ?_
          refine j_iinc (v := (x7 + 1)) (L' := [(7, .int (x7 + 1)), (6, .int (j_abv x6.toNatClampNeg)), (0, .ref (G.1 + 47)), (1, .int x1), (3, .int x3), (4, .int x4), (5, .int x5)]) B dX0_run_39 6 rfl rfl (by decide) rfl ?_
          refine j_goto (tgt := 6) B dX0_run_42 (by decide) ?_
          refine j_locals [2, 3, 4, 5, 6, 1, 0] rfl ?_
          exact ih (x1) (x3) (x4) (x5) ((j_abv x6.toNatClampNeg)) ((x7 + 1)) (vi)  h
def fX0_run (rec : Nat → Int32 → Int32 → Int32 → Int32 → Int32 → VI → Option (Int32 × VI)) (x1 : Int32) (x2 : Int32) (x3 : Int32) (x4 : Int32) (x5 : Int32) (vi0 : VI) : Option (Int32 × VI) := fX0_run_6 rec FU x1 x3 x4 x5 x2 0 vi0
theorem tX0_run {G : GT} {sv : SV} {vi0 : VI} {vl0 : VL} {ns : Nat} {D : Nat} {rec : Nat → Int32 → Int32 → Int32 → Int32 → Int32 → VI → Option (Int32 × VI)} {x1 : Int32} {x2 : Int32} {x3 : Int32} {x4 : Int32} {x5 : Int32} {r : Int32} {vi' : VI} (hW : WF sv ns) (hR : (∀ {a0 a1 a2 a3 a4 : Int32} {vi : VI} {r : Int32 × VI}, rec 0 a0 a1 a2 a3 a4 vi = some r → Call G mX0_run D 0 0 [.ref (G.1 + 47), .int a0, .int a1, .int a2, .int a3, .int a4] sv vi vl0 (QI r.1 sv r.2 vl0)) ∧ (∀ {a0 a1 a2 a3 a4 : Int32} {vi : VI} {r : Int32 × VI}, rec 1 a0 a1 a2 a3 a4 vi = some r → Call G mX0_worked D 0 0 [.ref (G.1 + 47), .int a0, .int a1, .int a2, .int a3, .int a4] sv vi vl0 (QI r.1 sv r.2 vl0))) (hD : 0 ≤ D) (h : fX0_run rec x1 x2 x3 x4 x5 vi0 = some (r, vi')) : Call G mX0_run (D + 1) 0 0 [.ref (G.1 + 47), .int x1, .int x2, .int x3, .int x4, .int x5] sv vi0 vl0 (QI r sv vi' vl0) := by
  refine j_mk (by decide +kernel) (Nat.le_of_ble_eq_true rfl) (fun Γ B E => ?_)
  show J G Γ 0 0 0 [(0, .ref (G.1 + 47)), (1, .int x1), (2, .int x2), (3, .int x3), (4, .int x4), (5, .int x5)] [] sv vi0 vl0
  unfold fX0_run at h
  refine j_iload_n B dX0_run_0 rfl 2 rfl ?_
  refine j_istore (L' := [(6, .int x2), (0, .ref (G.1 + 47)), (1, .int x1), (2, .int x2), (3, .int x3), (4, .int x4), (5, .int x5)]) B dX0_run_1 (by decide) rfl ?_
  refine j_iconst B dX0_run_3 (v := 0) (by decide) ?_
  refine j_istore (L' := [(7, .int 0), (6, .int x2), (0, .ref (G.1 + 47)), (1, .int x1), (2, .int x2), (3, .int x3), (4, .int x4), (5, .int x5)]) B dX0_run_4 (by decide) rfl ?_
  refine j_locals [2, 3, 5, 6, 7, 1, 0] rfl ?_
  exact tX0_run_6 B E hW hR hD FU (x1) (x3) (x4) (x5) (x2) (0) (vi0)  h
def fX0_worked (rec : Nat → Int32 → Int32 → Int32 → Int32 → Int32 → VI → Option (Int32 × VI)) (x1 : Int32) (x2 : Int32) (x3 : Int32) (x4 : Int32) (x5 : Int32) (vi0 : VI) : Option (Int32 × VI) := if inb x2 50 = true then if x1 = 1 then some ((x4 + x2), vi0) else if x1 = 2 then (rec 0 x2 (vi0 48 x2.toNatClampNeg) 1 x4 x5 vi0).bind fun r3 => (rec 0 x2 (vi0 48 x2.toNatClampNeg) 2 1 x5 r3.2).bind fun r4 => some ((r3.1 - r4.1), r4.2) else if x1 = 10 then (rec 0 x2 (vi0 48 x2.toNatClampNeg) 0 x4 x5 vi0).bind fun r5 => some ((r5.1 * 2), r5.2) else if x1 = 11 then some ((x4 ^^^ x2), vi0) else if x1 = 20 then (rec 0 x2 x3 0 x4 x5 vi0).bind fun r6 => some ((r6.1 + 3), r6.2) else if x1 = 30 then (rec 0 x2 x3 1 x4 x5 vi0).bind fun r7 => some ((-r7.1), r7.2) else if x1 = 40 then (rec 0 x2 x3 2 x4 x5 vi0).bind fun r8 => some ((r8.1 * 3), r8.2) else if x1 = 41 then (rec 0 x2 x3 1 (x4 + 1) x5 vi0).bind fun r9 => some (r9.1, r9.2) else if x1 = 50 then (rec 0 x2 x3 3 x4 x5 vi0).bind fun r10 => some ((r10.1 ^^^ 5), r10.2) else if x1 = 60 then (rec 0 x2 x3 2 x4 x5 vi0).bind fun r11 => (rec 0 x2 (vi0 48 x2.toNatClampNeg) 0 2 x5 r11.2).bind fun r12 => some ((r11.1 - r12.1), r12.2) else if x1 = 61 then (rec 0 x2 x3 3 x4 x5 vi0).bind fun r13 => some ((r13.1 + 1), r13.2) else if x1 = 70 then (rec 0 x2 x3 0 x4 x5 vi0).bind fun r14 => some ((r14.1 * 2), r14.2) else if x1 = 80 then (rec 0 x2 x3 1 x4 x5 vi0).bind fun r15 => (rec 0 x2 (vi0 48 x2.toNatClampNeg) 2 2 x5 r15.2).bind fun r16 => some ((r15.1 + r16.1), r16.2) else (rec 0 x2 x3 0 x4 x5 vi0).bind fun r2 => some ((r2.1 - 1), r2.2) else none
theorem tX0_worked {G : GT} {sv : SV} {vi0 : VI} {vl0 : VL} {ns : Nat} {D : Nat} {rec : Nat → Int32 → Int32 → Int32 → Int32 → Int32 → VI → Option (Int32 × VI)} {x1 : Int32} {x2 : Int32} {x3 : Int32} {x4 : Int32} {x5 : Int32} {r : Int32} {vi' : VI} (hW : WF sv ns) (hR : (∀ {a0 a1 a2 a3 a4 : Int32} {vi : VI} {r : Int32 × VI}, rec 0 a0 a1 a2 a3 a4 vi = some r → Call G mX0_run D 0 0 [.ref (G.1 + 47), .int a0, .int a1, .int a2, .int a3, .int a4] sv vi vl0 (QI r.1 sv r.2 vl0)) ∧ (∀ {a0 a1 a2 a3 a4 : Int32} {vi : VI} {r : Int32 × VI}, rec 1 a0 a1 a2 a3 a4 vi = some r → Call G mX0_worked D 0 0 [.ref (G.1 + 47), .int a0, .int a1, .int a2, .int a3, .int a4] sv vi vl0 (QI r.1 sv r.2 vl0))) (hD : 0 ≤ D) (h : fX0_worked rec x1 x2 x3 x4 x5 vi0 = some (r, vi')) : Call G mX0_worked (D + 1) 0 0 [.ref (G.1 + 47), .int x1, .int x2, .int x3, .int x4, .int x5] sv vi0 vl0 (QI r sv vi' vl0) := by
  refine j_mk (by decide +kernel) (Nat.le_of_ble_eq_true rfl) (fun Γ B E => ?_)
  show J G Γ 0 0 0 [(0, .ref (G.1 + 47)), (1, .int x1), (2, .int x2), (3, .int x3), (4, .int x4), (5, .int x5)] [] sv vi0 vl0
  unfold fX0_worked at h
  refine j_aload_n B dX0_worked_0 rfl 0 rfl ?_
  refine gf_RX0_9 B rfl (wf_49 hW) (wf_147 hW) dX0_worked_1 ?_
  refine j_iload_n B dX0_worked_4 rfl 2 rfl ?_
  obtain ⟨b1, h⟩ := h_inb h
  refine j_iald B ((wf_50 hW)) b1 dX0_worked_5 ?_
  refine j_istore (L' := [(6, .int (vi0 48 x2.toNatClampNeg)), (0, .ref (G.1 + 47)), (1, .int x1), (2, .int x2), (3, .int x3), (4, .int x4), (5, .int x5)]) B dX0_worked_6 (by decide) rfl ?_
  refine j_iload_n B dX0_worked_8 rfl 2 rfl ?_
  by_cases c0 : x1 = 1
  · replace h := h_pos c0 h
    refine j_lookup (off := 115) (tgt := 124) B dX0_worked_9 (by decide +kernel) (by rw [c0]; decide +kernel) (by decide) ?_
    refine j_iload B dX0_worked_124 5 rfl ?_
    refine j_iload_n B dX0_worked_126 rfl 3 rfl ?_
    refine j_iadd B dX0_worked_127 ?_
    obtain ⟨e1, e2⟩ := Prod.mk.inj (Option.some.inj h)
    subst e1
    subst e2
    exact j_iret B E rfl dX0_worked_128 (Nat.le_refl _) (Nat.le_refl _) ⟨rfl, rfl, rfl, rfl⟩
  replace h := h_neg c0 h
  by_cases c1 : x1 = 2
  · replace h := h_pos c1 h
    refine j_lookup (off := 140) (tgt := 149) B dX0_worked_9 (by decide +kernel) (by rw [c1]; decide +kernel) (by decide) ?_
    refine j_aload_n B dX0_worked_149 rfl 1 rfl ?_
    refine j_iload_n B dX0_worked_150 rfl 3 rfl ?_
    refine j_iload B dX0_worked_151 0 rfl ?_
    refine j_iconst B dX0_worked_153 (v := 1) (by decide) ?_
    refine j_iload B dX0_worked_154 5 rfl ?_
    refine j_iload B dX0_worked_156 6 rfl ?_
    obtain ⟨r3, hr3, h⟩ := h_bind h
    refine j_cVI (rest := []) B (hR.1  hr3) cls0 (wf_49 hW) jt_RX0_35 wi_X0_run ws_X0_run rfl (by omega) (Nat.le_refl _) (Nat.le_refl _) rfl (Nat.le_of_ble_eq_true rfl) dX0_worked_158 ?_
    refine j_aload_n B dX0_worked_161 rfl 1 rfl ?_
    refine j_iload_n B dX0_worked_162 rfl 3 rfl ?_
    refine j_iload B dX0_worked_163 0 rfl ?_
    refine j_iconst B dX0_worked_165 (v := 2) (by decide) ?_
    refine j_iconst B dX0_worked_166 (v := 1) (by decide) ?_
    refine j_iload B dX0_worked_167 6 rfl ?_
    obtain ⟨r4, hr4, h⟩ := h_bind h
    refine j_cVI (rest := [.int r3.1]) B (hR.1  hr4) cls0 (wf_49 hW) jt_RX0_35 wi_X0_run ws_X0_run rfl (by omega) (Nat.le_refl _) (Nat.le_refl _) rfl (Nat.le_of_ble_eq_true rfl) dX0_worked_169 ?_
    refine j_isub B dX0_worked_172 ?_
    obtain ⟨e1, e2⟩ := Prod.mk.inj (Option.some.inj h)
    subst e1
    subst e2
    exact j_iret B E rfl dX0_worked_173 (Nat.le_refl _) (Nat.le_refl _) ⟨rfl, rfl, rfl, rfl⟩
  replace h := h_neg c1 h
  by_cases c2 : x1 = 10
  · replace h := h_pos c2 h
    refine j_lookup (off := 120) (tgt := 129) B dX0_worked_9 (by decide +kernel) (by rw [c2]; decide +kernel) (by decide) ?_
    refine j_aload_n B dX0_worked_129 rfl 1 rfl ?_
    refine j_iload_n B dX0_worked_130 rfl 3 rfl ?_
    refine j_iload B dX0_worked_131 0 rfl ?_
    refine j_iconst B dX0_worked_133 (v := 0) (by decide) ?_
    refine j_iload B dX0_worked_134 5 rfl ?_
    refine j_iload B dX0_worked_136 6 rfl ?_
    obtain ⟨r5, hr5, h⟩ := h_bind h
    refine j_cVI (rest := []) B (hR.1  hr5) cls0 (wf_49 hW) jt_RX0_35 wi_X0_run ws_X0_run rfl (by omega) (Nat.le_refl _) (Nat.le_refl _) rfl (Nat.le_of_ble_eq_true rfl) dX0_worked_138 ?_
    refine j_iconst B dX0_worked_141 (v := 2) (by decide) ?_
    refine j_imul B dX0_worked_142 ?_
    obtain ⟨e1, e2⟩ := Prod.mk.inj (Option.some.inj h)
    subst e1
    subst e2
    exact j_iret B E rfl dX0_worked_143 (Nat.le_refl _) (Nat.le_refl _) ⟨rfl, rfl, rfl, rfl⟩
  replace h := h_neg c2 h
  by_cases c3 : x1 = 11
  · replace h := h_pos c3 h
    refine j_lookup (off := 135) (tgt := 144) B dX0_worked_9 (by decide +kernel) (by rw [c3]; decide +kernel) (by decide) ?_
    refine j_iload B dX0_worked_144 5 rfl ?_
    refine j_iload_n B dX0_worked_146 rfl 3 rfl ?_
    refine j_ixor B dX0_worked_147 ?_
    obtain ⟨e1, e2⟩ := Prod.mk.inj (Option.some.inj h)
    subst e1
    subst e2
    exact j_iret B E rfl dX0_worked_148 (Nat.le_refl _) (Nat.le_refl _) ⟨rfl, rfl, rfl, rfl⟩
  replace h := h_neg c3 h
  by_cases c4 : x1 = 20
  · replace h := h_pos c4 h
    refine j_lookup (off := 165) (tgt := 174) B dX0_worked_9 (by decide +kernel) (by rw [c4]; decide +kernel) (by decide) ?_
    refine j_aload_n B dX0_worked_174 rfl 1 rfl ?_
    refine j_iload_n B dX0_worked_175 rfl 3 rfl ?_
    refine j_iload_n B dX0_worked_176 rfl 4 rfl ?_
    refine j_iconst B dX0_worked_177 (v := 0) (by decide) ?_
    refine j_iload B dX0_worked_178 5 rfl ?_
    refine j_iload B dX0_worked_180 6 rfl ?_
    obtain ⟨r6, hr6, h⟩ := h_bind h
    refine j_cVI (rest := []) B (hR.1  hr6) cls0 (wf_49 hW) jt_RX0_35 wi_X0_run ws_X0_run rfl (by omega) (Nat.le_refl _) (Nat.le_refl _) rfl (Nat.le_of_ble_eq_true rfl) dX0_worked_182 ?_
    refine j_iconst B dX0_worked_185 (v := 3) (by decide) ?_
    refine j_iadd B dX0_worked_186 ?_
    obtain ⟨e1, e2⟩ := Prod.mk.inj (Option.some.inj h)
    subst e1
    subst e2
    exact j_iret B E rfl dX0_worked_187 (Nat.le_refl _) (Nat.le_refl _) ⟨rfl, rfl, rfl, rfl⟩
  replace h := h_neg c4 h
  by_cases c5 : x1 = 30
  · replace h := h_pos c5 h
    refine j_lookup (off := 179) (tgt := 188) B dX0_worked_9 (by decide +kernel) (by rw [c5]; decide +kernel) (by decide) ?_
    refine j_aload_n B dX0_worked_188 rfl 1 rfl ?_
    refine j_iload_n B dX0_worked_189 rfl 3 rfl ?_
    refine j_iload_n B dX0_worked_190 rfl 4 rfl ?_
    refine j_iconst B dX0_worked_191 (v := 1) (by decide) ?_
    refine j_iload B dX0_worked_192 5 rfl ?_
    refine j_iload B dX0_worked_194 6 rfl ?_
    obtain ⟨r7, hr7, h⟩ := h_bind h
    refine j_cVI (rest := []) B (hR.1  hr7) cls0 (wf_49 hW) jt_RX0_35 wi_X0_run ws_X0_run rfl (by omega) (Nat.le_refl _) (Nat.le_refl _) rfl (Nat.le_of_ble_eq_true rfl) dX0_worked_196 ?_
    refine j_ineg B dX0_worked_199 ?_
    obtain ⟨e1, e2⟩ := Prod.mk.inj (Option.some.inj h)
    subst e1
    subst e2
    exact j_iret B E rfl dX0_worked_200 (Nat.le_refl _) (Nat.le_refl _) ⟨rfl, rfl, rfl, rfl⟩
  replace h := h_neg c5 h
  by_cases c6 : x1 = 40
  · replace h := h_pos c6 h
    refine j_lookup (off := 192) (tgt := 201) B dX0_worked_9 (by decide +kernel) (by rw [c6]; decide +kernel) (by decide) ?_
    refine j_aload_n B dX0_worked_201 rfl 1 rfl ?_
    refine j_iload_n B dX0_worked_202 rfl 3 rfl ?_
    refine j_iload_n B dX0_worked_203 rfl 4 rfl ?_
    refine j_iconst B dX0_worked_204 (v := 2) (by decide) ?_
    refine j_iload B dX0_worked_205 5 rfl ?_
    refine j_iload B dX0_worked_207 6 rfl ?_
    obtain ⟨r8, hr8, h⟩ := h_bind h
    refine j_cVI (rest := []) B (hR.1  hr8) cls0 (wf_49 hW) jt_RX0_35 wi_X0_run ws_X0_run rfl (by omega) (Nat.le_refl _) (Nat.le_refl _) rfl (Nat.le_of_ble_eq_true rfl) dX0_worked_209 ?_
    refine j_iconst B dX0_worked_212 (v := 3) (by decide) ?_
    refine j_imul B dX0_worked_213 ?_
    obtain ⟨e1, e2⟩ := Prod.mk.inj (Option.some.inj h)
    subst e1
    subst e2
    exact j_iret B E rfl dX0_worked_214 (Nat.le_refl _) (Nat.le_refl _) ⟨rfl, rfl, rfl, rfl⟩
  replace h := h_neg c6 h
  by_cases c7 : x1 = 41
  · replace h := h_pos c7 h
    refine j_lookup (off := 206) (tgt := 215) B dX0_worked_9 (by decide +kernel) (by rw [c7]; decide +kernel) (by decide) ?_
    refine j_aload_n B dX0_worked_215 rfl 1 rfl ?_
    refine j_iload_n B dX0_worked_216 rfl 3 rfl ?_
    refine j_iload_n B dX0_worked_217 rfl 4 rfl ?_
    refine j_iconst B dX0_worked_218 (v := 1) (by decide) ?_
    refine j_iload B dX0_worked_219 5 rfl ?_
    refine j_iconst B dX0_worked_221 (v := 1) (by decide) ?_
    refine j_iadd B dX0_worked_222 ?_
    refine j_iload B dX0_worked_223 6 rfl ?_
    obtain ⟨r9, hr9, h⟩ := h_bind h
    refine j_cVI (rest := []) B (hR.1  hr9) cls0 (wf_49 hW) jt_RX0_35 wi_X0_run ws_X0_run rfl (by omega) (Nat.le_refl _) (Nat.le_refl _) rfl (Nat.le_of_ble_eq_true rfl) dX0_worked_225 ?_
    obtain ⟨e1, e2⟩ := Prod.mk.inj (Option.some.inj h)
    subst e1
    subst e2
    exact j_iret B E rfl dX0_worked_228 (Nat.le_refl _) (Nat.le_refl _) ⟨rfl, rfl, rfl, rfl⟩
  replace h := h_neg c7 h
  by_cases c8 : x1 = 50
  · replace h := h_pos c8 h
    refine j_lookup (off := 220) (tgt := 229) B dX0_worked_9 (by decide +kernel) (by rw [c8]; decide +kernel) (by decide) ?_
    refine j_aload_n B dX0_worked_229 rfl 1 rfl ?_
    refine j_iload_n B dX0_worked_230 rfl 3 rfl ?_
    refine j_iload_n B dX0_worked_231 rfl 4 rfl ?_
    refine j_iconst B dX0_worked_232 (v := 3) (by decide) ?_
    refine j_iload B dX0_worked_233 5 rfl ?_
    refine j_iload B dX0_worked_235 6 rfl ?_
    obtain ⟨r10, hr10, h⟩ := h_bind h
    refine j_cVI (rest := []) B (hR.1  hr10) cls0 (wf_49 hW) jt_RX0_35 wi_X0_run ws_X0_run rfl (by omega) (Nat.le_refl _) (Nat.le_refl _) rfl (Nat.le_of_ble_eq_true rfl) dX0_worked_237 ?_
    refine j_iconst B dX0_worked_240 (v := 5) (by decide) ?_
    refine j_ixor B dX0_worked_241 ?_
    obtain ⟨e1, e2⟩ := Prod.mk.inj (Option.some.inj h)
    subst e1
    subst e2
    exact j_iret B E rfl dX0_worked_242 (Nat.le_refl _) (Nat.le_refl _) ⟨rfl, rfl, rfl, rfl⟩
  replace h := h_neg c8 h
  by_cases c9 : x1 = 60
  · replace h := h_pos c9 h
    refine j_lookup (off := 234) (tgt := 243) B dX0_worked_9 (by decide +kernel) (by rw [c9]; decide +kernel) (by decide) ?_
    refine j_aload_n B dX0_worked_243 rfl 1 rfl ?_
    refine j_iload_n B dX0_worked_244 rfl 3 rfl ?_
    refine j_iload_n B dX0_worked_245 rfl 4 rfl ?_
    refine j_iconst B dX0_worked_246 (v := 2) (by decide) ?_
    refine j_iload B dX0_worked_247 5 rfl ?_
    refine j_iload B dX0_worked_249 6 rfl ?_
    obtain ⟨r11, hr11, h⟩ := h_bind h
    refine j_cVI (rest := []) B (hR.1  hr11) cls0 (wf_49 hW) jt_RX0_35 wi_X0_run ws_X0_run rfl (by omega) (Nat.le_refl _) (Nat.le_refl _) rfl (Nat.le_of_ble_eq_true rfl) dX0_worked_251 ?_
    refine j_aload_n B dX0_worked_254 rfl 1 rfl ?_
    refine j_iload_n B dX0_worked_255 rfl 3 rfl ?_
    refine j_iload B dX0_worked_256 0 rfl ?_
    refine j_iconst B dX0_worked_258 (v := 0) (by decide) ?_
    refine j_iconst B dX0_worked_259 (v := 2) (by decide) ?_
    refine j_iload B dX0_worked_260 6 rfl ?_
    obtain ⟨r12, hr12, h⟩ := h_bind h
    refine j_cVI (rest := [.int r11.1]) B (hR.1  hr12) cls0 (wf_49 hW) jt_RX0_35 wi_X0_run ws_X0_run rfl (by omega) (Nat.le_refl _) (Nat.le_refl _) rfl (Nat.le_of_ble_eq_true rfl) dX0_worked_262 ?_
    refine j_isub B dX0_worked_265 ?_
    obtain ⟨e1, e2⟩ := Prod.mk.inj (Option.some.inj h)
    subst e1
    subst e2
    exact j_iret B E rfl dX0_worked_266 (Nat.le_refl _) (Nat.le_refl _) ⟨rfl, rfl, rfl, rfl⟩
  replace h := h_neg c9 h
  by_cases c10 : x1 = 61
  · replace h := h_pos c10 h
    refine j_lookup (off := 258) (tgt := 267) B dX0_worked_9 (by decide +kernel) (by rw [c10]; decide +kernel) (by decide) ?_
    refine j_aload_n B dX0_worked_267 rfl 1 rfl ?_
    refine j_iload_n B dX0_worked_268 rfl 3 rfl ?_
    refine j_iload_n B dX0_worked_269 rfl 4 rfl ?_
    refine j_iconst B dX0_worked_270 (v := 3) (by decide) ?_
    refine j_iload B dX0_worked_271 5 rfl ?_
    refine j_iload B dX0_worked_273 6 rfl ?_
    obtain ⟨r13, hr13, h⟩ := h_bind h
    refine j_cVI (rest := []) B (hR.1  hr13) cls0 (wf_49 hW) jt_RX0_35 wi_X0_run ws_X0_run rfl (by omega) (Nat.le_refl _) (Nat.le_refl _) rfl (Nat.le_of_ble_eq_true rfl) dX0_worked_275 ?_
    refine j_iconst B dX0_worked_278 (v := 1) (by decide) ?_
    refine j_iadd B dX0_worked_279 ?_
    obtain ⟨e1, e2⟩ := Prod.mk.inj (Option.some.inj h)
    subst e1
    subst e2
    exact j_iret B E rfl dX0_worked_280 (Nat.le_refl _) (Nat.le_refl _) ⟨rfl, rfl, rfl, rfl⟩
  replace h := h_neg c10 h
  by_cases c11 : x1 = 70
  · replace h := h_pos c11 h
    refine j_lookup (off := 272) (tgt := 281) B dX0_worked_9 (by decide +kernel) (by rw [c11]; decide +kernel) (by decide) ?_
    refine j_aload_n B dX0_worked_281 rfl 1 rfl ?_
    refine j_iload_n B dX0_worked_282 rfl 3 rfl ?_
    refine j_iload_n B dX0_worked_283 rfl 4 rfl ?_
    refine j_iconst B dX0_worked_284 (v := 0) (by decide) ?_
    refine j_iload B dX0_worked_285 5 rfl ?_
    refine j_iload B dX0_worked_287 6 rfl ?_
    obtain ⟨r14, hr14, h⟩ := h_bind h
    refine j_cVI (rest := []) B (hR.1  hr14) cls0 (wf_49 hW) jt_RX0_35 wi_X0_run ws_X0_run rfl (by omega) (Nat.le_refl _) (Nat.le_refl _) rfl (Nat.le_of_ble_eq_true rfl) dX0_worked_289 ?_
    refine j_iconst B dX0_worked_292 (v := 2) (by decide) ?_
    refine j_imul B dX0_worked_293 ?_
    obtain ⟨e1, e2⟩ := Prod.mk.inj (Option.some.inj h)
    subst e1
    subst e2
    exact j_iret B E rfl dX0_worked_294 (Nat.le_refl _) (Nat.le_refl _) ⟨rfl, rfl, rfl, rfl⟩
  replace h := h_neg c11 h
  by_cases c12 : x1 = 80
  · replace h := h_pos c12 h
    refine j_lookup (off := 286) (tgt := 295) B dX0_worked_9 (by decide +kernel) (by rw [c12]; decide +kernel) (by decide) ?_
    refine j_aload_n B dX0_worked_295 rfl 1 rfl ?_
    refine j_iload_n B dX0_worked_296 rfl 3 rfl ?_
    refine j_iload_n B dX0_worked_297 rfl 4 rfl ?_
    refine j_iconst B dX0_worked_298 (v := 1) (by decide) ?_
    refine j_iload B dX0_worked_299 5 rfl ?_
    refine j_iload B dX0_worked_301 6 rfl ?_
    obtain ⟨r15, hr15, h⟩ := h_bind h
    refine j_cVI (rest := []) B (hR.1  hr15) cls0 (wf_49 hW) jt_RX0_35 wi_X0_run ws_X0_run rfl (by omega) (Nat.le_refl _) (Nat.le_refl _) rfl (Nat.le_of_ble_eq_true rfl) dX0_worked_303 ?_
    refine j_aload_n B dX0_worked_306 rfl 1 rfl ?_
    refine j_iload_n B dX0_worked_307 rfl 3 rfl ?_
    refine j_iload B dX0_worked_308 0 rfl ?_
    refine j_iconst B dX0_worked_310 (v := 2) (by decide) ?_
    refine j_iconst B dX0_worked_311 (v := 2) (by decide) ?_
    refine j_iload B dX0_worked_312 6 rfl ?_
    obtain ⟨r16, hr16, h⟩ := h_bind h
    refine j_cVI (rest := [.int r15.1]) B (hR.1  hr16) cls0 (wf_49 hW) jt_RX0_35 wi_X0_run ws_X0_run rfl (by omega) (Nat.le_refl _) (Nat.le_refl _) rfl (Nat.le_of_ble_eq_true rfl) dX0_worked_314 ?_
    refine j_iadd B dX0_worked_317 ?_
    obtain ⟨e1, e2⟩ := Prod.mk.inj (Option.some.inj h)
    subst e1
    subst e2
    exact j_iret B E rfl dX0_worked_318 (Nat.le_refl _) (Nat.le_refl _) ⟨rfl, rfl, rfl, rfl⟩
  replace h := h_neg c12 h
  refine j_lookup (off := 310) (tgt := 319) B dX0_worked_9 (by decide +kernel) (by show Op.lookupswitch.offset _ _ _ = _; rw [lv_osw c0 (by decide), lv_osw c1 (by decide), lv_osw c2 (by decide), lv_osw c3 (by decide), lv_osw c4 (by decide), lv_osw c5 (by decide), lv_osw c6 (by decide), lv_osw c7 (by decide), lv_osw c8 (by decide), lv_osw c9 (by decide), lv_osw c10 (by decide), lv_osw c11 (by decide), lv_osw c12 (by decide)]; rfl) (by decide) ?_
  refine j_aload_n B dX0_worked_319 rfl 1 rfl ?_
  refine j_iload_n B dX0_worked_320 rfl 3 rfl ?_
  refine j_iload_n B dX0_worked_321 rfl 4 rfl ?_
  refine j_iconst B dX0_worked_322 (v := 0) (by decide) ?_
  refine j_iload B dX0_worked_323 5 rfl ?_
  refine j_iload B dX0_worked_325 6 rfl ?_
  obtain ⟨r2, hr2, h⟩ := h_bind h
  refine j_cVI (rest := []) B (hR.1  hr2) cls0 (wf_49 hW) jt_RX0_35 wi_X0_run ws_X0_run rfl (by omega) (Nat.le_refl _) (Nat.le_refl _) rfl (Nat.le_of_ble_eq_true rfl) dX0_worked_327 ?_
  refine j_iconst B dX0_worked_330 (v := 1) (by decide) ?_
  refine j_isub B dX0_worked_331 ?_
  obtain ⟨e1, e2⟩ := Prod.mk.inj (Option.some.inj h)
  subst e1
  subst e2
  exact j_iret B E rfl dX0_worked_332 (Nat.le_refl _) (Nat.le_refl _) ⟨rfl, rfl, rfl, rfl⟩
def fX0g : Nat → Nat → Int32 → Int32 → Int32 → Int32 → Int32 → VI → Option (Int32 × VI)
  | 0, _, _, _, _, _, _, _ => none
  | D + 1, sel, a, b, c, d, e, vi => if sel = 0 then fX0_run (fX0g D) a b c d e vi else if sel = 1 then fX0_worked (fX0g D) a b c d e vi else none
theorem tX0g {G : GT} {sv : SV} {vl0 : VL} {ns : Nat} (hW : WF sv ns) : ∀ n : Nat, (∀ {a0 a1 a2 a3 a4 : Int32} {vi : VI} {r : Int32 × VI}, fX0g n 0 a0 a1 a2 a3 a4 vi = some r → Call G mX0_run (n + 0) 0 0 [.ref (G.1 + 47), .int a0, .int a1, .int a2, .int a3, .int a4] sv vi vl0 (QI r.1 sv r.2 vl0)) ∧ (∀ {a0 a1 a2 a3 a4 : Int32} {vi : VI} {r : Int32 × VI}, fX0g n 1 a0 a1 a2 a3 a4 vi = some r → Call G mX0_worked (n + 0) 0 0 [.ref (G.1 + 47), .int a0, .int a1, .int a2, .int a3, .int a4] sv vi vl0 (QI r.1 sv r.2 vl0)) := by
  intro n
  induction n with
  | zero => refine ⟨?_, ?_⟩ <;> (intros; rename_i h; cases h)
  | succ n ih =>
    refine ⟨?_, ?_⟩
    · intro a b c d e vi r h
      rw [fX0g] at h
      replace h := h_pos rfl h
      exact tX0_run (D := n + 0) (rec := fX0g n) hW ih (by omega) h
    · intro a b c d e vi r h
      rw [fX0g] at h
      replace h := h_neg (by decide) h
      replace h := h_pos rfl h
      exact tX0_worked (D := n + 0) (rec := fX0g n) hW ih (by omega) h
theorem tX0_run_g {G : GT} {sv : SV} {vi : VI} {vl0 : VL} {ns : Nat} {a0 a1 a2 a3 a4 : Int32} {r : Int32 × VI} (hW : WF sv ns) (h : fX0g 64 0 a0 a1 a2 a3 a4 vi = some r) : Call G mX0_run 64 0 0 [.ref (G.1 + 47), .int a0, .int a1, .int a2, .int a3, .int a4] sv vi vl0 (QI r.1 sv r.2 vl0) := (tX0g hW 64).1 h
theorem tX0_worked_g {G : GT} {sv : SV} {vi : VI} {vl0 : VL} {ns : Nat} {a0 a1 a2 a3 a4 : Int32} {r : Int32 × VI} (hW : WF sv ns) (h : fX0g 64 1 a0 a1 a2 a3 a4 vi = some r) : Call G mX0_worked 64 0 0 [.ref (G.1 + 47), .int a0, .int a1, .int a2, .int a3, .int a4] sv vi vl0 (QI r.1 sv r.2 vl0) := (tX0g hW 64).2 h
def fX1_dropOldest  (vi0 : VI) : Option (VI) := if cpok 1 0 39 40 40 = true then if cpok 1 0 39 40 40 = true then if cpok 1 0 39 40 40 = true then if cpok 1 0 39 40 40 = true then some ((j_up (j_row (j_row (j_row (j_row vi0 43 (va_cpy (vi0 43) (vi0 43) (1 : Int32).toNatClampNeg (0 : Int32).toNatClampNeg (39 : Int32).toNatClampNeg)) 44 (va_cpy ((j_row vi0 43 (va_cpy (vi0 43) (vi0 43) (1 : Int32).toNatClampNeg (0 : Int32).toNatClampNeg (39 : Int32).toNatClampNeg)) 44) ((j_row vi0 43 (va_cpy (vi0 43) (vi0 43) (1 : Int32).toNatClampNeg (0 : Int32).toNatClampNeg (39 : Int32).toNatClampNeg)) 44) (1 : Int32).toNatClampNeg (0 : Int32).toNatClampNeg (39 : Int32).toNatClampNeg)) 45 (va_cpy ((j_row (j_row vi0 43 (va_cpy (vi0 43) (vi0 43) (1 : Int32).toNatClampNeg (0 : Int32).toNatClampNeg (39 : Int32).toNatClampNeg)) 44 (va_cpy ((j_row vi0 43 (va_cpy (vi0 43) (vi0 43) (1 : Int32).toNatClampNeg (0 : Int32).toNatClampNeg (39 : Int32).toNatClampNeg)) 44) ((j_row vi0 43 (va_cpy (vi0 43) (vi0 43) (1 : Int32).toNatClampNeg (0 : Int32).toNatClampNeg (39 : Int32).toNatClampNeg)) 44) (1 : Int32).toNatClampNeg (0 : Int32).toNatClampNeg (39 : Int32).toNatClampNeg)) 45) ((j_row (j_row vi0 43 (va_cpy (vi0 43) (vi0 43) (1 : Int32).toNatClampNeg (0 : Int32).toNatClampNeg (39 : Int32).toNatClampNeg)) 44 (va_cpy ((j_row vi0 43 (va_cpy (vi0 43) (vi0 43) (1 : Int32).toNatClampNeg (0 : Int32).toNatClampNeg (39 : Int32).toNatClampNeg)) 44) ((j_row vi0 43 (va_cpy (vi0 43) (vi0 43) (1 : Int32).toNatClampNeg (0 : Int32).toNatClampNeg (39 : Int32).toNatClampNeg)) 44) (1 : Int32).toNatClampNeg (0 : Int32).toNatClampNeg (39 : Int32).toNatClampNeg)) 45) (1 : Int32).toNatClampNeg (0 : Int32).toNatClampNeg (39 : Int32).toNatClampNeg)) 46 (va_cpy ((j_row (j_row (j_row vi0 43 (va_cpy (vi0 43) (vi0 43) (1 : Int32).toNatClampNeg (0 : Int32).toNatClampNeg (39 : Int32).toNatClampNeg)) 44 (va_cpy ((j_row vi0 43 (va_cpy (vi0 43) (vi0 43) (1 : Int32).toNatClampNeg (0 : Int32).toNatClampNeg (39 : Int32).toNatClampNeg)) 44) ((j_row vi0 43 (va_cpy (vi0 43) (vi0 43) (1 : Int32).toNatClampNeg (0 : Int32).toNatClampNeg (39 : Int32).toNatClampNeg)) 44) (1 : Int32).toNatClampNeg (0 : Int32).toNatClampNeg (39 : Int32).toNatClampNeg)) 45 (va_cpy ((j_row (j_row vi0 43 (va_cpy (vi0 43) (vi0 43) (1 : Int32).toNatClampNeg (0 : Int32).toNatClampNeg (39 : Int32).toNatClampNeg)) 44 (va_cpy ((j_row vi0 43 (va_cpy (vi0 43) (vi0 43) (1 : Int32).toNatClampNeg (0 : Int32).toNatClampNeg (39 : Int32).toNatClampNeg)) 44) ((j_row vi0 43 (va_cpy (vi0 43) (vi0 43) (1 : Int32).toNatClampNeg (0 : Int32).toNatClampNeg (39 : Int32).toNatClampNeg)) 44) (1 : Int32).toNatClampNeg (0 : Int32).toNatClampNeg (39 : Int32).toNatClampNeg)) 45) ((j_row (j_row vi0 43 (va_cpy (vi0 43) (vi0 43) (1 : Int32).toNatClampNeg (0 : Int32).toNatClampNeg (39 : Int32).toNatClampNeg)) 44 (va_cpy ((j_row vi0 43 (va_cpy (vi0 43) (vi0 43) (1 : Int32).toNatClampNeg (0 : Int32).toNatClampNeg (39 : Int32).toNatClampNeg)) 44) ((j_row vi0 43 (va_cpy (vi0 43) (vi0 43) (1 : Int32).toNatClampNeg (0 : Int32).toNatClampNeg (39 : Int32).toNatClampNeg)) 44) (1 : Int32).toNatClampNeg (0 : Int32).toNatClampNeg (39 : Int32).toNatClampNeg)) 45) (1 : Int32).toNatClampNeg (0 : Int32).toNatClampNeg (39 : Int32).toNatClampNeg)) 46) ((j_row (j_row (j_row vi0 43 (va_cpy (vi0 43) (vi0 43) (1 : Int32).toNatClampNeg (0 : Int32).toNatClampNeg (39 : Int32).toNatClampNeg)) 44 (va_cpy ((j_row vi0 43 (va_cpy (vi0 43) (vi0 43) (1 : Int32).toNatClampNeg (0 : Int32).toNatClampNeg (39 : Int32).toNatClampNeg)) 44) ((j_row vi0 43 (va_cpy (vi0 43) (vi0 43) (1 : Int32).toNatClampNeg (0 : Int32).toNatClampNeg (39 : Int32).toNatClampNeg)) 44) (1 : Int32).toNatClampNeg (0 : Int32).toNatClampNeg (39 : Int32).toNatClampNeg)) 45 (va_cpy ((j_row (j_row vi0 43 (va_cpy (vi0 43) (vi0 43) (1 : Int32).toNatClampNeg (0 : Int32).toNatClampNeg (39 : Int32).toNatClampNeg)) 44 (va_cpy ((j_row vi0 43 (va_cpy (vi0 43) (vi0 43) (1 : Int32).toNatClampNeg (0 : Int32).toNatClampNeg (39 : Int32).toNatClampNeg)) 44) ((j_row vi0 43 (va_cpy (vi0 43) (vi0 43) (1 : Int32).toNatClampNeg (0 : Int32).toNatClampNeg (39 : Int32).toNatClampNeg)) 44) (1 : Int32).toNatClampNeg (0 : Int32).toNatClampNeg (39 : Int32).toNatClampNeg)) 45) ((j_row (j_row vi0 43 (va_cpy (vi0 43) (vi0 43) (1 : Int32).toNatClampNeg (0 : Int32).toNatClampNeg (39 : Int32).toNatClampNeg)) 44 (va_cpy ((j_row vi0 43 (va_cpy (vi0 43) (vi0 43) (1 : Int32).toNatClampNeg (0 : Int32).toNatClampNeg (39 : Int32).toNatClampNeg)) 44) ((j_row vi0 43 (va_cpy (vi0 43) (vi0 43) (1 : Int32).toNatClampNeg (0 : Int32).toNatClampNeg (39 : Int32).toNatClampNeg)) 44) (1 : Int32).toNatClampNeg (0 : Int32).toNatClampNeg (39 : Int32).toNatClampNeg)) 45) (1 : Int32).toNatClampNeg (0 : Int32).toNatClampNeg (39 : Int32).toNatClampNeg)) 46) (1 : Int32).toNatClampNeg (0 : Int32).toNatClampNeg (39 : Int32).toNatClampNeg)) 42 4 39)) else none else none else none else none
theorem tX1_dropOldest {G : GT} {sv : SV} {vi0 : VI} {vl0 : VL} {ns : Nat} {vi' : VI} (hW : WF sv ns) (h : fX1_dropOldest vi0 = some (vi')) : Call G mX1_dropOldest 2 0 0 [.ref (G.1 + 42)] sv vi0 vl0 (QV sv vi' vl0) := by
  refine j_mk (by decide +kernel) (Nat.le_of_ble_eq_true rfl) (fun Γ B E => ?_)
  show J G Γ 0 0 0 [(0, .ref (G.1 + 42))] [] sv vi0 vl0
  unfold fX1_dropOldest at h
  refine j_aload_n B dX1_dropOldest_0 rfl 0 rfl ?_
  refine gf_RX1_9 B rfl (wf_44 hW) (wf_142 hW) dX1_dropOldest_1 ?_
  refine j_iconst B dX1_dropOldest_4 (v := 1) (by decide) ?_
  refine j_aload_n B dX1_dropOldest_5 rfl 0 rfl ?_
  refine gf_RX1_9 B rfl (wf_44 hW) (wf_142 hW) dX1_dropOldest_6 ?_
  refine j_iconst B dX1_dropOldest_9 (v := 0) (by decide) ?_
  refine j_bipush B dX1_dropOldest_10 (v := 39) (by decide) ?_
  obtain ⟨b1, h⟩ := h_cp h
  refine j_copyi B ((wf_45 hW)) ((wf_45 hW)) wl_RX1_34 wn_ac wst_ac wini_sys b1.1 b1.2.1 b1.2.2.1 b1.2.2.2.1 b1.2.2.2.2 (by decide) (Nat.le_of_ble_eq_true rfl) dX1_dropOldest_12 ?_
  refine j_aload_n B dX1_dropOldest_15 rfl 0 rfl ?_
  refine gf_RX1_15 B rfl (wf_44 hW) (wf_143 hW) dX1_dropOldest_16 ?_
  refine j_iconst B dX1_dropOldest_19 (v := 1) (by decide) ?_
  refine j_aload_n B dX1_dropOldest_20 rfl 0 rfl ?_
  refine gf_RX1_15 B rfl (wf_44 hW) (wf_143 hW) dX1_dropOldest_21 ?_
  refine j_iconst B dX1_dropOldest_24 (v := 0) (by decide) ?_
  refine j_bipush B dX1_dropOldest_25 (v := 39) (by decide) ?_
  obtain ⟨b2, h⟩ := h_cp h
  refine j_copyi B ((wf_46 hW)) ((wf_46 hW)) wl_RX1_34 wn_ac wst_ac wini_sys b2.1 b2.2.1 b2.2.2.1 b2.2.2.2.1 b2.2.2.2.2 (by decide) (Nat.le_of_ble_eq_true rfl) dX1_dropOldest_27 ?_
  refine j_aload_n B dX1_dropOldest_30 rfl 0 rfl ?_
  refine gf_RX1_18 B rfl (wf_44 hW) (wf_144 hW) dX1_dropOldest_31 ?_
  refine j_iconst B dX1_dropOldest_34 (v := 1) (by decide) ?_
  refine j_aload_n B dX1_dropOldest_35 rfl 0 rfl ?_
  refine gf_RX1_18 B rfl (wf_44 hW) (wf_144 hW) dX1_dropOldest_36 ?_
  refine j_iconst B dX1_dropOldest_39 (v := 0) (by decide) ?_
  refine j_bipush B dX1_dropOldest_40 (v := 39) (by decide) ?_
  obtain ⟨b3, h⟩ := h_cp h
  refine j_copyi B ((wf_47 hW)) ((wf_47 hW)) wl_RX1_34 wn_ac wst_ac wini_sys b3.1 b3.2.1 b3.2.2.1 b3.2.2.2.1 b3.2.2.2.2 (by decide) (Nat.le_of_ble_eq_true rfl) dX1_dropOldest_42 ?_
  refine j_aload_n B dX1_dropOldest_45 rfl 0 rfl ?_
  refine gf_RX1_21 B rfl (wf_44 hW) (wf_145 hW) dX1_dropOldest_46 ?_
  refine j_iconst B dX1_dropOldest_49 (v := 1) (by decide) ?_
  refine j_aload_n B dX1_dropOldest_50 rfl 0 rfl ?_
  refine gf_RX1_21 B rfl (wf_44 hW) (wf_145 hW) dX1_dropOldest_51 ?_
  refine j_iconst B dX1_dropOldest_54 (v := 0) (by decide) ?_
  refine j_bipush B dX1_dropOldest_55 (v := 39) (by decide) ?_
  obtain ⟨b4, h⟩ := h_cp h
  refine j_copyi B ((wf_48 hW)) ((wf_48 hW)) wl_RX1_34 wn_ac wst_ac wini_sys b4.1 b4.2.1 b4.2.2.1 b4.2.2.2.1 b4.2.2.2.2 (by decide) (Nat.le_of_ble_eq_true rfl) dX1_dropOldest_57 ?_
  refine j_aload_n B dX1_dropOldest_60 rfl 0 rfl ?_
  refine j_bipush B dX1_dropOldest_61 (v := 39) (by decide) ?_
  refine pf_RX1_24 B rfl (wf_44 hW) dX1_dropOldest_63 ?_
  have e1 := Option.some.inj h
  subst e1
  exact j_vret B E rfl dX1_dropOldest_66 (Nat.le_refl _) (Nat.le_refl _) ⟨rfl, rfl, rfl, rfl⟩
def fX1_keepNew_13  (x1 : Int32) (x2 : Int32) (x3 : Int32) (x4 : Int32) (vi : VI) : Option (VI) := if inb (vi 42 4) 40 = true then if inb ((j_up vi 43 (vi 42 4).toNatClampNeg x1) 42 4) 40 = true then if inb ((j_up (j_up vi 43 (vi 42 4).toNatClampNeg x1) 44 ((j_up vi 43 (vi 42 4).toNatClampNeg x1) 42 4).toNatClampNeg x2) 42 4) 40 = true then if inb ((j_up (j_up (j_up vi 43 (vi 42 4).toNatClampNeg x1) 44 ((j_up vi 43 (vi 42 4).toNatClampNeg x1) 42 4).toNatClampNeg x2) 45 ((j_up (j_up vi 43 (vi 42 4).toNatClampNeg x1) 44 ((j_up vi 43 (vi 42 4).toNatClampNeg x1) 42 4).toNatClampNeg x2) 42 4).toNatClampNeg x3) 42 4) 40 = true then some ((j_up (j_up (j_up (j_up (j_up (j_up vi 43 (vi 42 4).toNatClampNeg x1) 44 ((j_up vi 43 (vi 42 4).toNatClampNeg x1) 42 4).toNatClampNeg x2) 45 ((j_up (j_up vi 43 (vi 42 4).toNatClampNeg x1) 44 ((j_up vi 43 (vi 42 4).toNatClampNeg x1) 42 4).toNatClampNeg x2) 42 4).toNatClampNeg x3) 46 ((j_up (j_up (j_up vi 43 (vi 42 4).toNatClampNeg x1) 44 ((j_up vi 43 (vi 42 4).toNatClampNeg x1) 42 4).toNatClampNeg x2) 45 ((j_up (j_up vi 43 (vi 42 4).toNatClampNeg x1) 44 ((j_up vi 43 (vi 42 4).toNatClampNeg x1) 42 4).toNatClampNeg x2) 42 4).toNatClampNeg x3) 42 4).toNatClampNeg x4) 42 4 (((j_up (j_up (j_up (j_up vi 43 (vi 42 4).toNatClampNeg x1) 44 ((j_up vi 43 (vi 42 4).toNatClampNeg x1) 42 4).toNatClampNeg x2) 45 ((j_up (j_up vi 43 (vi 42 4).toNatClampNeg x1) 44 ((j_up vi 43 (vi 42 4).toNatClampNeg x1) 42 4).toNatClampNeg x2) 42 4).toNatClampNeg x3) 46 ((j_up (j_up (j_up vi 43 (vi 42 4).toNatClampNeg x1) 44 ((j_up vi 43 (vi 42 4).toNatClampNeg x1) 42 4).toNatClampNeg x2) 45 ((j_up (j_up vi 43 (vi 42 4).toNatClampNeg x1) 44 ((j_up vi 43 (vi 42 4).toNatClampNeg x1) 42 4).toNatClampNeg x2) 42 4).toNatClampNeg x3) 42 4).toNatClampNeg x4) 42 4) + 1)) 42 5 ((j_up (j_up (j_up (j_up (j_up vi 43 (vi 42 4).toNatClampNeg x1) 44 ((j_up vi 43 (vi 42 4).toNatClampNeg x1) 42 4).toNatClampNeg x2) 45 ((j_up (j_up vi 43 (vi 42 4).toNatClampNeg x1) 44 ((j_up vi 43 (vi 42 4).toNatClampNeg x1) 42 4).toNatClampNeg x2) 42 4).toNatClampNeg x3) 46 ((j_up (j_up (j_up vi 43 (vi 42 4).toNatClampNeg x1) 44 ((j_up vi 43 (vi 42 4).toNatClampNeg x1) 42 4).toNatClampNeg x2) 45 ((j_up (j_up vi 43 (vi 42 4).toNatClampNeg x1) 44 ((j_up vi 43 (vi 42 4).toNatClampNeg x1) 42 4).toNatClampNeg x2) 42 4).toNatClampNeg x3) 42 4).toNatClampNeg x4) 42 4 (((j_up (j_up (j_up (j_up vi 43 (vi 42 4).toNatClampNeg x1) 44 ((j_up vi 43 (vi 42 4).toNatClampNeg x1) 42 4).toNatClampNeg x2) 45 ((j_up (j_up vi 43 (vi 42 4).toNatClampNeg x1) 44 ((j_up vi 43 (vi 42 4).toNatClampNeg x1) 42 4).toNatClampNeg x2) 42 4).toNatClampNeg x3) 46 ((j_up (j_up (j_up vi 43 (vi 42 4).toNatClampNeg x1) 44 ((j_up vi 43 (vi 42 4).toNatClampNeg x1) 42 4).toNatClampNeg x2) 45 ((j_up (j_up vi 43 (vi 42 4).toNatClampNeg x1) 44 ((j_up vi 43 (vi 42 4).toNatClampNeg x1) 42 4).toNatClampNeg x2) 42 4).toNatClampNeg x3) 42 4).toNatClampNeg x4) 42 4) + 1)) 42 4))) else none else none else none else none
theorem tX1_keepNew_13 {G : GT} {sv : SV} {vl0 : VL} {ns : Nat} {Γ : CT} {vi' : VI} (B : Base G Γ mX1_keepNew 3 0 0) (E : Ends G Γ 0 0 (QV sv vi' vl0)) (hW : WF sv ns) : ∀ (x1 : Int32) (x2 : Int32) (x3 : Int32) (x4 : Int32) (vi : VI), fX1_keepNew_13  x1 x2 x3 x4 vi = some (vi') → J G Γ 0 0 13 [(0, .ref (G.1 + 42)), (1, .int x1), (2, .int x2), (3, .int x3), (4, .int x4)] [] sv vi vl0 := by
  intro x1 x2 x3 x4 vi  h
  unfold fX1_keepNew_13 at h
  refine j_aload_n B dX1_keepNew_13 rfl 0 rfl ?_
  refine gf_RX1_9 B rfl (wf_44 hW) (wf_142 hW) dX1_keepNew_14 ?_
  refine j_aload_n B dX1_keepNew_17 rfl 0 rfl ?_
  refine gf_RX1_24 B rfl (wf_44 hW) dX1_keepNew_18 ?_
  refine j_iload_n B dX1_keepNew_21 rfl 1 rfl ?_
  obtain ⟨b1, h⟩ := h_inb h
  refine j_iast B ((wf_45 hW)) b1 dX1_keepNew_22 ?_
  refine j_aload_n B dX1_keepNew_23 rfl 0 rfl ?_
  refine gf_RX1_15 B rfl (wf_44 hW) (wf_143 hW) dX1_keepNew_24 ?_
  refine j_aload_n B dX1_keepNew_27 rfl 0 rfl ?_
  refine gf_RX1_24 B rfl (wf_44 hW) dX1_keepNew_28 ?_
  refine j_iload_n B dX1_keepNew_31 rfl 2 rfl ?_
  obtain ⟨b2, h⟩ := h_inb h
  refine j_iast B ((wf_46 hW)) b2 dX1_keepNew_32 ?_
  refine j_aload_n B dX1_keepNew_33 rfl 0 rfl ?_
  refine gf_RX1_18 B rfl (wf_44 hW) (wf_144 hW) dX1_keepNew_34 ?_
  refine j_aload_n B dX1_keepNew_37 rfl 0 rfl ?_
  refine gf_RX1_24 B rfl (wf_44 hW) dX1_keepNew_38 ?_
  refine j_iload_n B dX1_keepNew_41 rfl 3 rfl ?_
  obtain ⟨b3, h⟩ := h_inb h
  refine j_iast B ((wf_47 hW)) b3 dX1_keepNew_42 ?_
  refine j_aload_n B dX1_keepNew_43 rfl 0 rfl ?_
  refine gf_RX1_21 B rfl (wf_44 hW) (wf_145 hW) dX1_keepNew_44 ?_
  refine j_aload_n B dX1_keepNew_47 rfl 0 rfl ?_
  refine gf_RX1_24 B rfl (wf_44 hW) dX1_keepNew_48 ?_
  refine j_iload B dX1_keepNew_51 4 rfl ?_
  obtain ⟨b4, h⟩ := h_inb h
  refine j_iast B ((wf_48 hW)) b4 dX1_keepNew_53 ?_
  refine j_aload_n B dX1_keepNew_54 rfl 0 rfl ?_
  refine j_dup B dX1_keepNew_55 rfl ?_
  refine gf_RX1_24 B rfl (wf_44 hW) dX1_keepNew_56 ?_
  refine j_iconst B dX1_keepNew_59 (v := 1) (by decide) ?_
  refine j_iadd B dX1_keepNew_60 ?_
  refine pf_RX1_24 B rfl (wf_44 hW) dX1_keepNew_61 ?_
  refine j_aload_n B dX1_keepNew_64 rfl 0 rfl ?_
  refine j_aload_n B dX1_keepNew_65 rfl 0 rfl ?_
  refine gf_RX1_24 B rfl (wf_44 hW) dX1_keepNew_66 ?_
  refine pf_RX1_31 B rfl (wf_44 hW) dX1_keepNew_69 ?_
  have e1 := Option.some.inj h
  subst e1
  exact j_vret B E rfl dX1_keepNew_72 (Nat.le_refl _) (Nat.le_refl _) ⟨rfl, rfl, rfl, rfl⟩
def fX1_keepNew (x1 : Int32) (x2 : Int32) (x3 : Int32) (x4 : Int32) (vi0 : VI) : Option (VI) := if (vi0 42 4) < 40 then fX1_keepNew_13  x1 x2 x3 x4 vi0 else (fX1_dropOldest vi0).bind fun r5 => fX1_keepNew_13  x1 x2 x3 x4 r5
theorem tX1_keepNew {G : GT} {sv : SV} {vi0 : VI} {vl0 : VL} {ns : Nat} {x1 : Int32} {x2 : Int32} {x3 : Int32} {x4 : Int32} {vi' : VI} (hW : WF sv ns) (h : fX1_keepNew x1 x2 x3 x4 vi0 = some (vi')) : Call G mX1_keepNew 3 0 0 [.ref (G.1 + 42), .int x1, .int x2, .int x3, .int x4] sv vi0 vl0 (QV sv vi' vl0) := by
  refine j_mk (by decide +kernel) (Nat.le_of_ble_eq_true rfl) (fun Γ B E => ?_)
  show J G Γ 0 0 0 [(0, .ref (G.1 + 42)), (1, .int x1), (2, .int x2), (3, .int x3), (4, .int x4)] [] sv vi0 vl0
  unfold fX1_keepNew at h
  refine j_aload_n B dX1_keepNew_0 rfl 0 rfl ?_
  refine gf_RX1_24 B rfl (wf_44 hW) dX1_keepNew_1 ?_
  refine j_bipush B dX1_keepNew_4 (v := 40) (by decide) ?_
  refine j_icmp_lt (tgt := 13) B dX1_keepNew_6 (by decide) (fun c => ?_) (fun c => ?_)
  · replace h := h_pos c h
    refine j_locals [0, 1, 2, 3, 4] rfl ?_
    exact tX1_keepNew_13 B E hW (x1) (x2) (x3) (x4) (vi0)  h
  · replace h := h_neg c h
    refine j_aload_n B dX1_keepNew_9 rfl 0 rfl ?_
    obtain ⟨r5, hr5, h⟩ := h_bind h
    refine j_cVV (rest := []) B (tX1_dropOldest hW hr5) cls1 (wf_44 hW) jt_RX1_28 wi_X1_dropOldest ws_X1_dropOldest rfl (by decide) (Nat.le_refl _) (Nat.le_refl _) rfl (Nat.le_of_ble_eq_true rfl) dX1_keepNew_10 ?_
    refine j_locals [0, 1, 2, 3, 4] rfl ?_
    exact tX1_keepNew_13 B E hW (x1) (x2) (x3) (x4) (r5)  h
def fX5_pop (o : Nat) (vi0 : VI) : Option (Int32 × VI) := if 0 < (vi0 o 5) then if inb ((j_up vi0 o 5 ((vi0 o 5) - 1)) o 5) 121 = true then some (((j_up vi0 o 5 ((vi0 o 5) - 1)) (o + 3) ((j_up vi0 o 5 ((vi0 o 5) - 1)) o 5).toNatClampNeg), (j_up vi0 o 5 ((vi0 o 5) - 1))) else none else some (0, vi0)
theorem tX5_pop {G : GT} {sv : SV} {vi0 : VI} {vl0 : VL} {o : Nat} {r : Int32} {vi' : VI} (ho : isLaw sv o) (h : fX5_pop o vi0 = some (r, vi')) : Call G mX5_pop 0 0 0 [.ref (G.1 + o)] sv vi0 vl0 (QI r sv vi' vl0) := by
  refine j_mk (by decide +kernel) (Nat.le_of_ble_eq_true rfl) (fun Γ B E => ?_)
  show J G Γ 0 0 0 [(0, .ref (G.1 + o))] [] sv vi0 vl0
  unfold fX5_pop at h
  refine j_aload_n B dX5_pop_0 rfl 0 rfl ?_
  refine gf_RX5_40 B rfl ((ho).1) dX5_pop_1 ?_
  refine j_if_gt (tgt := 9) B dX5_pop_4 (by decide) (fun c => ?_) (fun c => ?_)
  · replace h := h_pos c h
    refine j_aload_n B dX5_pop_9 rfl 0 rfl ?_
    refine j_dup B dX5_pop_10 rfl ?_
    refine gf_RX5_40 B rfl ((ho).1) dX5_pop_11 ?_
    refine j_iconst B dX5_pop_14 (v := 1) (by decide) ?_
    refine j_isub B dX5_pop_15 ?_
    refine pf_RX5_40 B rfl ((ho).1) dX5_pop_16 ?_
    refine j_aload_n B dX5_pop_19 rfl 0 rfl ?_
    refine gf_RX5_18 B rfl ((ho).1) (ho).2.2.2.1 dX5_pop_20 ?_
    refine j_aload_n B dX5_pop_23 rfl 0 rfl ?_
    refine gf_RX5_40 B rfl ((ho).1) dX5_pop_24 ?_
    obtain ⟨b1, h⟩ := h_inb h
    refine j_iald B ((ho).2.2.2.2.2.2) b1 dX5_pop_27 ?_
    obtain ⟨e1, e2⟩ := Prod.mk.inj (Option.some.inj h)
    subst e1
    subst e2
    exact j_iret B E rfl dX5_pop_28 (Nat.le_refl _) (Nat.le_refl _) ⟨rfl, rfl, rfl, rfl⟩
  · replace h := h_neg c h
    refine j_iconst B dX5_pop_7 (v := 0) (by decide) ?_
    obtain ⟨e1, e2⟩ := Prod.mk.inj (Option.some.inj h)
    subst e1
    subst e2
    exact j_iret B E rfl dX5_pop_8 (Nat.le_refl _) (Nat.le_refl _) ⟨rfl, rfl, rfl, rfl⟩
def fX5_push (o : Nat) (x1 : Int32) (vi0 : VI) : Option (VI) := if 121 ≤ (vi0 o 5) then some (vi0) else if inb (vi0 o 5) 121 = true then some ((j_up (j_up vi0 (o + 3) (vi0 o 5).toNatClampNeg x1) o 5 (((j_up vi0 (o + 3) (vi0 o 5).toNatClampNeg x1) o 5) + 1))) else none
theorem tX5_push {G : GT} {sv : SV} {vi0 : VI} {vl0 : VL} {o : Nat} {x1 : Int32} {vi' : VI} (ho : isLaw sv o) (h : fX5_push o x1 vi0 = some (vi')) : Call G mX5_push 0 0 0 [.ref (G.1 + o), .int x1] sv vi0 vl0 (QV sv vi' vl0) := by
  refine j_mk (by decide +kernel) (Nat.le_of_ble_eq_true rfl) (fun Γ B E => ?_)
  show J G Γ 0 0 0 [(0, .ref (G.1 + o)), (1, .int x1)] [] sv vi0 vl0
  unfold fX5_push at h
  refine j_aload_n B dX5_push_0 rfl 0 rfl ?_
  refine gf_RX5_40 B rfl ((ho).1) dX5_push_1 ?_
  refine j_aload_n B dX5_push_4 rfl 0 rfl ?_
  refine gf_RX5_18 B rfl ((ho).1) (ho).2.2.2.1 dX5_push_5 ?_
  refine j_alen (v := 121) B ((ho).2.2.2.2.2.2) (Or.inl rfl) (by decide) dX5_push_8 ?_
  refine j_icmp_ge (tgt := 32) B dX5_push_9 (by decide) (fun c => ?_) (fun c => ?_)
  · replace h := h_pos c h
    have e1 := Option.some.inj h
    subst e1
    exact j_vret B E rfl dX5_push_32 (Nat.le_refl _) (Nat.le_refl _) ⟨rfl, rfl, rfl, rfl⟩
  · replace h := h_neg c h
    refine j_aload_n B dX5_push_12 rfl 0 rfl ?_
    refine gf_RX5_18 B rfl ((ho).1) (ho).2.2.2.1 dX5_push_13 ?_
    refine j_aload_n B dX5_push_16 rfl 0 rfl ?_
    refine gf_RX5_40 B rfl ((ho).1) dX5_push_17 ?_
    refine j_iload_n B dX5_push_20 rfl 1 rfl ?_
    obtain ⟨b1, h⟩ := h_inb h
    refine j_iast B ((ho).2.2.2.2.2.2) b1 dX5_push_21 ?_
    refine j_aload_n B dX5_push_22 rfl 0 rfl ?_
    refine j_dup B dX5_push_23 rfl ?_
    refine gf_RX5_40 B rfl ((ho).1) dX5_push_24 ?_
    refine j_iconst B dX5_push_27 (v := 1) (by decide) ?_
    refine j_iadd B dX5_push_28 ?_
    refine pf_RX5_40 B rfl ((ho).1) dX5_push_29 ?_
    have e1 := Option.some.inj h
    subst e1
    exact j_vret B E rfl dX5_push_32 (Nat.le_refl _) (Nat.le_refl _) ⟨rfl, rfl, rfl, rfl⟩
def fX5_joined_92  : Option (Int32) := some (1)
theorem tX5_joined_92 {G : GT} {sv : SV} {vi0 : VI} {vl0 : VL} {Γ : CT} {r : Int32} (B : Base G Γ mX5_joined 0 0 0) (E : Ends G Γ 0 0 (QI r sv vi0 vl0)) : fX5_joined_92   = some (r) → J G Γ 0 0 92 [] [] sv vi0 vl0 := by
  intro   h
  unfold fX5_joined_92 at h
  refine j_iconst B dX5_joined_92 (v := 1) (by decide) ?_
  refine j_goto (tgt := 97) B dX5_joined_93 (by decide) ?_
  have e1 := Option.some.inj h
  subst e1
  exact j_iret B E rfl dX5_joined_97 (Nat.le_refl _) (Nat.le_refl _) ⟨rfl, rfl, rfl, rfl⟩
def fX5_joined (x0 : Int32) (x1 : Int32) (x2 : Int32)  : Option (Int32) := if x0 = 38 then if x1 = 0 then some (0) else if x2 = 0 then some (0) else some (1) else if x0 = 42 then some ((x1 * x2)) else if x0 = 43 then some ((x1 + x2)) else if x0 = 45 then some ((x1 - x2)) else if x0 = 47 then if x2 = 0 then some (0) else if x2 = 0 then none else some ((x1 / x2)) else if x0 = 60 then if x2 ≤ x1 then some (0) else some (1) else if x0 = 61 then if x1 = x2 then some (1) else some (0) else if x0 = 62 then if x1 ≤ x2 then some (0) else some (1) else if x0 = 124 then if x1 = 0 then if x2 = 0 then some (0) else fX5_joined_92   else fX5_joined_92   else if x2 = 0 then some (0) else if x2 = 0 then none else some ((x1 - x1 / x2 * x2))
theorem tX5_joined {G : GT} {sv : SV} {vi0 : VI} {vl0 : VL} {x0 : Int32} {x1 : Int32} {x2 : Int32} {r : Int32} (h : fX5_joined x0 x1 x2 = some (r)) : Call G mX5_joined 0 0 0 [.int x0, .int x1, .int x2] sv vi0 vl0 (QI r sv vi0 vl0) := by
  refine j_mk (by decide +kernel) (Nat.le_of_ble_eq_true rfl) (fun Γ B E => ?_)
  show J G Γ 0 0 0 [(0, .int x0), (1, .int x1), (2, .int x2)] [] sv vi0 vl0
  unfold fX5_joined at h
  refine j_iload_n B dX5_joined_0 rfl 0 rfl ?_
  by_cases c0 : x0 = 38
  · replace h := h_pos c0 h
    refine j_lookup (off := 97) (tgt := 98) B dX5_joined_1 (by decide +kernel) (by rw [c0]; decide +kernel) (by decide) ?_
    refine j_iload_n B dX5_joined_98 rfl 1 rfl ?_
    refine j_if_eq (tgt := 110) B dX5_joined_99 (by decide) (fun c => ?_) (fun c => ?_)
    · replace h := h_pos c h
      refine j_iconst B dX5_joined_110 (v := 0) (by decide) ?_
      have e1 := Option.some.inj h
      subst e1
      exact j_iret B E rfl dX5_joined_111 (Nat.le_refl _) (Nat.le_refl _) ⟨rfl, rfl, rfl, rfl⟩
    · replace h := h_neg c h
      refine j_iload_n B dX5_joined_102 rfl 2 rfl ?_
      refine j_if_eq (tgt := 110) B dX5_joined_103 (by decide) (fun c => ?_) (fun c => ?_)
      · replace h := h_pos c h
        refine j_iconst B dX5_joined_110 (v := 0) (by decide) ?_
        have e1 := Option.some.inj h
        subst e1
        exact j_iret B E rfl dX5_joined_111 (Nat.le_refl _) (Nat.le_refl _) ⟨rfl, rfl, rfl, rfl⟩
      · replace h := h_neg c h
        refine j_iconst B dX5_joined_106 (v := 1) (by decide) ?_
        refine j_goto (tgt := 111) B dX5_joined_107 (by decide) ?_
        have e1 := Option.some.inj h
        subst e1
        exact j_iret B E rfl dX5_joined_111 (Nat.le_refl _) (Nat.le_refl _) ⟨rfl, rfl, rfl, rfl⟩
  replace h := h_neg c0 h
  by_cases c1 : x0 = 42
  · replace h := h_pos c1 h
    refine j_lookup (off := 152) (tgt := 153) B dX5_joined_1 (by decide +kernel) (by rw [c1]; decide +kernel) (by decide) ?_
    refine j_iload_n B dX5_joined_153 rfl 1 rfl ?_
    refine j_iload_n B dX5_joined_154 rfl 2 rfl ?_
    refine j_imul B dX5_joined_155 ?_
    have e1 := Option.some.inj h
    subst e1
    exact j_iret B E rfl dX5_joined_156 (Nat.le_refl _) (Nat.le_refl _) ⟨rfl, rfl, rfl, rfl⟩
  replace h := h_neg c1 h
  by_cases c2 : x0 = 43
  · replace h := h_pos c2 h
    refine j_lookup (off := 144) (tgt := 145) B dX5_joined_1 (by decide +kernel) (by rw [c2]; decide +kernel) (by decide) ?_
    refine j_iload_n B dX5_joined_145 rfl 1 rfl ?_
    refine j_iload_n B dX5_joined_146 rfl 2 rfl ?_
    refine j_iadd B dX5_joined_147 ?_
    have e1 := Option.some.inj h
    subst e1
    exact j_iret B E rfl dX5_joined_148 (Nat.le_refl _) (Nat.le_refl _) ⟨rfl, rfl, rfl, rfl⟩
  replace h := h_neg c2 h
  by_cases c3 : x0 = 45
  · replace h := h_pos c3 h
    refine j_lookup (off := 148) (tgt := 149) B dX5_joined_1 (by decide +kernel) (by rw [c3]; decide +kernel) (by decide) ?_
    refine j_iload_n B dX5_joined_149 rfl 1 rfl ?_
    refine j_iload_n B dX5_joined_150 rfl 2 rfl ?_
    refine j_isub B dX5_joined_151 ?_
    have e1 := Option.some.inj h
    subst e1
    exact j_iret B E rfl dX5_joined_152 (Nat.le_refl _) (Nat.le_refl _) ⟨rfl, rfl, rfl, rfl⟩
  replace h := h_neg c3 h
  by_cases c4 : x0 = 47
  · replace h := h_pos c4 h
    refine j_lookup (off := 156) (tgt := 157) B dX5_joined_1 (by decide +kernel) (by rw [c4]; decide +kernel) (by decide) ?_
    refine j_iload_n B dX5_joined_157 rfl 2 rfl ?_
    refine j_if_ne (tgt := 165) B dX5_joined_158 (by decide) (fun c => ?_) (fun c => ?_)
    · replace h := h_neg c h
      refine j_iload_n B dX5_joined_165 rfl 1 rfl ?_
      refine j_iload_n B dX5_joined_166 rfl 2 rfl ?_
      obtain ⟨b2, h⟩ := h_nz h
      refine j_idiv B dX5_joined_167 b2 ?_
      have e1 := Option.some.inj h
      subst e1
      exact j_iret B E rfl dX5_joined_168 (Nat.le_refl _) (Nat.le_refl _) ⟨rfl, rfl, rfl, rfl⟩
    · replace h := h_pos c h
      refine j_iconst B dX5_joined_161 (v := 0) (by decide) ?_
      refine j_goto (tgt := 168) B dX5_joined_162 (by decide) ?_
      have e1 := Option.some.inj h
      subst e1
      exact j_iret B E rfl dX5_joined_168 (Nat.le_refl _) (Nat.le_refl _) ⟨rfl, rfl, rfl, rfl⟩
  replace h := h_neg c4 h
  by_cases c5 : x0 = 60
  · replace h := h_pos c5 h
    refine j_lookup (off := 111) (tgt := 112) B dX5_joined_1 (by decide +kernel) (by rw [c5]; decide +kernel) (by decide) ?_
    refine j_iload_n B dX5_joined_112 rfl 1 rfl ?_
    refine j_iload_n B dX5_joined_113 rfl 2 rfl ?_
    refine j_icmp_ge (tgt := 121) B dX5_joined_114 (by decide) (fun c => ?_) (fun c => ?_)
    · replace h := h_pos c h
      refine j_iconst B dX5_joined_121 (v := 0) (by decide) ?_
      have e1 := Option.some.inj h
      subst e1
      exact j_iret B E rfl dX5_joined_122 (Nat.le_refl _) (Nat.le_refl _) ⟨rfl, rfl, rfl, rfl⟩
    · replace h := h_neg c h
      refine j_iconst B dX5_joined_117 (v := 1) (by decide) ?_
      refine j_goto (tgt := 122) B dX5_joined_118 (by decide) ?_
      have e1 := Option.some.inj h
      subst e1
      exact j_iret B E rfl dX5_joined_122 (Nat.le_refl _) (Nat.le_refl _) ⟨rfl, rfl, rfl, rfl⟩
  replace h := h_neg c5 h
  by_cases c6 : x0 = 61
  · replace h := h_pos c6 h
    refine j_lookup (off := 122) (tgt := 123) B dX5_joined_1 (by decide +kernel) (by rw [c6]; decide +kernel) (by decide) ?_
    refine j_iload_n B dX5_joined_123 rfl 1 rfl ?_
    refine j_iload_n B dX5_joined_124 rfl 2 rfl ?_
    refine j_icmp_ne (tgt := 132) B dX5_joined_125 (by decide) (fun c => ?_) (fun c => ?_)
    · replace h := h_neg c h
      refine j_iconst B dX5_joined_132 (v := 0) (by decide) ?_
      have e1 := Option.some.inj h
      subst e1
      exact j_iret B E rfl dX5_joined_133 (Nat.le_refl _) (Nat.le_refl _) ⟨rfl, rfl, rfl, rfl⟩
    · replace h := h_pos c h
      refine j_iconst B dX5_joined_128 (v := 1) (by decide) ?_
      refine j_goto (tgt := 133) B dX5_joined_129 (by decide) ?_
      have e1 := Option.some.inj h
      subst e1
      exact j_iret B E rfl dX5_joined_133 (Nat.le_refl _) (Nat.le_refl _) ⟨rfl, rfl, rfl, rfl⟩
  replace h := h_neg c6 h
  by_cases c7 : x0 = 62
  · replace h := h_pos c7 h
    refine j_lookup (off := 133) (tgt := 134) B dX5_joined_1 (by decide +kernel) (by rw [c7]; decide +kernel) (by decide) ?_
    refine j_iload_n B dX5_joined_134 rfl 1 rfl ?_
    refine j_iload_n B dX5_joined_135 rfl 2 rfl ?_
    refine j_icmp_le (tgt := 143) B dX5_joined_136 (by decide) (fun c => ?_) (fun c => ?_)
    · replace h := h_pos c h
      refine j_iconst B dX5_joined_143 (v := 0) (by decide) ?_
      have e1 := Option.some.inj h
      subst e1
      exact j_iret B E rfl dX5_joined_144 (Nat.le_refl _) (Nat.le_refl _) ⟨rfl, rfl, rfl, rfl⟩
    · replace h := h_neg c h
      refine j_iconst B dX5_joined_139 (v := 1) (by decide) ?_
      refine j_goto (tgt := 144) B dX5_joined_140 (by decide) ?_
      have e1 := Option.some.inj h
      subst e1
      exact j_iret B E rfl dX5_joined_144 (Nat.le_refl _) (Nat.le_refl _) ⟨rfl, rfl, rfl, rfl⟩
  replace h := h_neg c7 h
  by_cases c8 : x0 = 124
  · replace h := h_pos c8 h
    refine j_lookup (off := 83) (tgt := 84) B dX5_joined_1 (by decide +kernel) (by rw [c8]; decide +kernel) (by decide) ?_
    refine j_iload_n B dX5_joined_84 rfl 1 rfl ?_
    refine j_if_ne (tgt := 92) B dX5_joined_85 (by decide) (fun c => ?_) (fun c => ?_)
    · replace h := h_neg c h
      refine j_locals [] rfl ?_
      exact tX5_joined_92 B E    h
    · replace h := h_pos c h
      refine j_iload_n B dX5_joined_88 rfl 2 rfl ?_
      refine j_if_eq (tgt := 96) B dX5_joined_89 (by decide) (fun c => ?_) (fun c => ?_)
      · replace h := h_pos c h
        refine j_iconst B dX5_joined_96 (v := 0) (by decide) ?_
        have e1 := Option.some.inj h
        subst e1
        exact j_iret B E rfl dX5_joined_97 (Nat.le_refl _) (Nat.le_refl _) ⟨rfl, rfl, rfl, rfl⟩
      · replace h := h_neg c h
        refine j_locals [] rfl ?_
        exact tX5_joined_92 B E    h
  replace h := h_neg c8 h
  refine j_lookup (off := 168) (tgt := 169) B dX5_joined_1 (by decide +kernel) (by show Op.lookupswitch.offset _ _ _ = _; rw [lv_osw c0 (by decide), lv_osw c1 (by decide), lv_osw c2 (by decide), lv_osw c3 (by decide), lv_osw c4 (by decide), lv_osw c5 (by decide), lv_osw c6 (by decide), lv_osw c7 (by decide), lv_osw c8 (by decide)]; rfl) (by decide) ?_
  refine j_iload_n B dX5_joined_169 rfl 2 rfl ?_
  refine j_if_ne (tgt := 177) B dX5_joined_170 (by decide) (fun c => ?_) (fun c => ?_)
  · replace h := h_neg c h
    refine j_iload_n B dX5_joined_177 rfl 1 rfl ?_
    refine j_iload_n B dX5_joined_178 rfl 2 rfl ?_
    obtain ⟨b1, h⟩ := h_nz h
    refine j_irem B dX5_joined_179 b1 ?_
    have e1 := Option.some.inj h
    subst e1
    exact j_iret B E rfl dX5_joined_180 (Nat.le_refl _) (Nat.le_refl _) ⟨rfl, rfl, rfl, rfl⟩
  · replace h := h_pos c h
    refine j_iconst B dX5_joined_173 (v := 0) (by decide) ?_
    refine j_goto (tgt := 180) B dX5_joined_174 (by decide) ?_
    have e1 := Option.some.inj h
    subst e1
    exact j_iret B E rfl dX5_joined_180 (Nat.le_refl _) (Nat.le_refl _) ⟨rfl, rfl, rfl, rfl⟩
def fX5_work_78 (o : Nat) (s1 : Int32) (vi : VI) : Option (VI) := (fX5_push o s1 vi).bind fun r6 => some (r6)
theorem tX5_work_78 {G : GT} {sv : SV} {vl0 : VL} {Γ : CT} {o : Nat} {vi' : VI} (B : Base G Γ mX5_work 1 0 0) (E : Ends G Γ 0 0 (QV sv vi' vl0)) (ho : isLaw sv o) : ∀ (s1 : Int32) (vi : VI), fX5_work_78 o s1 vi = some (vi') → J G Γ 0 0 78 [] [.int s1, .ref (G.1 + o)] sv vi vl0 := by
  intro s1 vi  h
  unfold fX5_work_78 at h
  obtain ⟨r6, hr6, h⟩ := h_bind h
  refine j_cVV (rest := []) B (tX5_push (ho) hr6) cls5 ((ho).1) jt_RX5_55 wi_X5_push ws_X5_push rfl (by decide) (Nat.le_refl _) (Nat.le_refl _) rfl (Nat.le_of_ble_eq_true rfl) dX5_work_78 ?_
  refine j_goto (tgt := 108) B dX5_work_81 (by decide) ?_
  have e1 := Option.some.inj h
  subst e1
  exact j_vret B E rfl dX5_work_108 (Nat.le_refl _) (Nat.le_refl _) ⟨rfl, rfl, rfl, rfl⟩
def fX5_work (o : Nat) (x1 : Int32) (vi0 : VI) : Option (VI) := if 10000 ≤ x1 then if 10006 ≤ x1 then if x1 = 20126 then (fX5_pop o vi0).bind fun r7 => (fX5_push o (-r7.1) r7.2).bind fun r8 => some (r8) else if x1 = 20033 then (fX5_pop o vi0).bind fun r5 => if r5.1 = 0 then fX5_work_78 o 1 r5.2 else fX5_work_78 o 0 r5.2 else (fX5_pop o vi0).bind fun r1 => (fX5_pop o r1.2).bind fun r2 => (fX5_joined (x1 - 20000) r2.1 r1.1).bind fun r3 => (fX5_push o r3 r2.2).bind fun r4 => some (r4) else if inb (x1 - 10000) 6 = true then (fX5_push o (vi0 (o + 2) (x1 - 10000).toNatClampNeg) vi0).bind fun r10 => some (r10) else none else (fX5_push o x1 vi0).bind fun r11 => some (r11)
theorem tX5_work {G : GT} {sv : SV} {vi0 : VI} {vl0 : VL} {o : Nat} {x1 : Int32} {vi' : VI} (ho : isLaw sv o) (h : fX5_work o x1 vi0 = some (vi')) : Call G mX5_work 1 0 0 [.ref (G.1 + o), .int x1] sv vi0 vl0 (QV sv vi' vl0) := by
  refine j_mk (by decide +kernel) (Nat.le_of_ble_eq_true rfl) (fun Γ B E => ?_)
  show J G Γ 0 0 0 [(0, .ref (G.1 + o)), (1, .int x1)] [] sv vi0 vl0
  unfold fX5_work at h
  refine j_iload_n B dX5_work_0 rfl 1 rfl ?_
  refine j_sipush B dX5_work_1 (v := 10000) (by decide) ?_
  refine j_icmp_ge (tgt := 15) B dX5_work_4 (by decide) (fun c => ?_) (fun c => ?_)
  · replace h := h_pos c h
    refine j_iload_n B dX5_work_15 rfl 1 rfl ?_
    refine j_sipush B dX5_work_16 (v := 10006) (by decide) ?_
    refine j_icmp_ge (tgt := 39) B dX5_work_19 (by decide) (fun c => ?_) (fun c => ?_)
    · replace h := h_pos c h
      refine j_iload_n B dX5_work_39 rfl 1 rfl ?_
      refine j_sipush B dX5_work_40 (v := 20126) (by decide) ?_
      refine j_icmp_ne (tgt := 58) B dX5_work_43 (by decide) (fun c => ?_) (fun c => ?_)
      · replace h := h_neg c h
        refine j_iload_n B dX5_work_58 rfl 1 rfl ?_
        refine j_sipush B dX5_work_59 (v := 20033) (by decide) ?_
        refine j_icmp_ne (tgt := 84) B dX5_work_62 (by decide) (fun c => ?_) (fun c => ?_)
        · replace h := h_neg c h
          refine j_aload_n B dX5_work_84 rfl 0 rfl ?_
          obtain ⟨r1, hr1, h⟩ := h_bind h
          refine j_cVI (rest := []) B (tX5_pop (ho) hr1) cls5 ((ho).1) jt_RX5_43 wi_X5_pop ws_X5_pop rfl (by decide) (Nat.le_refl _) (Nat.le_refl _) rfl (Nat.le_of_ble_eq_true rfl) dX5_work_85 ?_
          refine j_istore_n (L' := [(2, .int r1.1), (0, .ref (G.1 + o)), (1, .int x1)]) B dX5_work_88 rfl (by decide) rfl ?_
          refine j_aload_n B dX5_work_89 rfl 1 rfl ?_
          obtain ⟨r2, hr2, h⟩ := h_bind h
          refine j_cVI (rest := []) B (tX5_pop (ho) hr2) cls5 ((ho).1) jt_RX5_43 wi_X5_pop ws_X5_pop rfl (by decide) (Nat.le_refl _) (Nat.le_refl _) rfl (Nat.le_of_ble_eq_true rfl) dX5_work_90 ?_
          refine j_istore_n (L' := [(3, .int r2.1), (2, .int r1.1), (0, .ref (G.1 + o)), (1, .int x1)]) B dX5_work_93 rfl (by decide) rfl ?_
          refine j_aload_n B dX5_work_94 rfl 2 rfl ?_
          refine j_iload_n B dX5_work_95 rfl 3 rfl ?_
          refine j_sipush B dX5_work_96 (v := 20000) (by decide) ?_
          refine j_isub B dX5_work_99 ?_
          refine j_iload_n B dX5_work_100 rfl 0 rfl ?_
          refine j_iload_n B dX5_work_101 rfl 1 rfl ?_
          obtain ⟨r3, hr3, h⟩ := h_bind h
          refine j_cSI (rest := [.ref (G.1 + o)]) B (tX5_joined hr3) jt_RX5_58 wst_X5_joined rfl (by decide) (Nat.le_refl _) (Nat.le_refl _) rfl (Nat.le_of_ble_eq_true rfl) dX5_work_102 ?_
          obtain ⟨r4, hr4, h⟩ := h_bind h
          refine j_cVV (rest := []) B (tX5_push (ho) hr4) cls5 ((ho).1) jt_RX5_55 wi_X5_push ws_X5_push rfl (by decide) (Nat.le_refl _) (Nat.le_refl _) rfl (Nat.le_of_ble_eq_true rfl) dX5_work_105 ?_
          have e1 := Option.some.inj h
          subst e1
          exact j_vret B E rfl dX5_work_108 (Nat.le_refl _) (Nat.le_refl _) ⟨rfl, rfl, rfl, rfl⟩
        · replace h := h_pos c h
          refine j_aload_n B dX5_work_65 rfl 0 rfl ?_
          refine j_aload_n B dX5_work_66 rfl 0 rfl ?_
          obtain ⟨r5, hr5, h⟩ := h_bind h
          refine j_cVI (rest := [.ref (G.1 + o)]) B (tX5_pop (ho) hr5) cls5 ((ho).1) jt_RX5_43 wi_X5_pop ws_X5_pop rfl (by decide) (Nat.le_refl _) (Nat.le_refl _) rfl (Nat.le_of_ble_eq_true rfl) dX5_work_67 ?_
          refine j_if_ne (tgt := 77) B dX5_work_70 (by decide) (fun c => ?_) (fun c => ?_)
          · replace h := h_neg c h
            refine j_iconst B dX5_work_77 (v := 0) (by decide) ?_
            refine j_locals [] rfl ?_
            exact tX5_work_78 B E ho (0) (r5.2)  h
          · replace h := h_pos c h
            refine j_iconst B dX5_work_73 (v := 1) (by decide) ?_
            refine j_goto (tgt := 78) B dX5_work_74 (by decide) ?_
            refine j_locals [] rfl ?_
            exact tX5_work_78 B E ho (1) (r5.2)  h
      · replace h := h_pos c h
        refine j_aload_n B dX5_work_46 rfl 0 rfl ?_
        refine j_aload_n B dX5_work_47 rfl 0 rfl ?_
        obtain ⟨r7, hr7, h⟩ := h_bind h
        refine j_cVI (rest := [.ref (G.1 + o)]) B (tX5_pop (ho) hr7) cls5 ((ho).1) jt_RX5_43 wi_X5_pop ws_X5_pop rfl (by decide) (Nat.le_refl _) (Nat.le_refl _) rfl (Nat.le_of_ble_eq_true rfl) dX5_work_48 ?_
        refine j_ineg B dX5_work_51 ?_
        obtain ⟨r8, hr8, h⟩ := h_bind h
        refine j_cVV (rest := []) B (tX5_push (ho) hr8) cls5 ((ho).1) jt_RX5_55 wi_X5_push ws_X5_push rfl (by decide) (Nat.le_refl _) (Nat.le_refl _) rfl (Nat.le_of_ble_eq_true rfl) dX5_work_52 ?_
        refine j_goto (tgt := 108) B dX5_work_55 (by decide) ?_
        have e1 := Option.some.inj h
        subst e1
        exact j_vret B E rfl dX5_work_108 (Nat.le_refl _) (Nat.le_refl _) ⟨rfl, rfl, rfl, rfl⟩
    · replace h := h_neg c h
      refine j_aload_n B dX5_work_22 rfl 0 rfl ?_
      refine j_aload_n B dX5_work_23 rfl 0 rfl ?_
      refine gf_RX5_15 B rfl ((ho).1) (ho).2.2.1 dX5_work_24 ?_
      refine j_iload_n B dX5_work_27 rfl 1 rfl ?_
      refine j_sipush B dX5_work_28 (v := 10000) (by decide) ?_
      refine j_isub B dX5_work_31 ?_
      obtain ⟨b9, h⟩ := h_inb h
      refine j_iald B ((ho).2.2.2.2.2.1) b9 dX5_work_32 ?_
      obtain ⟨r10, hr10, h⟩ := h_bind h
      refine j_cVV (rest := []) B (tX5_push (ho) hr10) cls5 ((ho).1) jt_RX5_55 wi_X5_push ws_X5_push rfl (by decide) (Nat.le_refl _) (Nat.le_refl _) rfl (Nat.le_of_ble_eq_true rfl) dX5_work_33 ?_
      refine j_goto (tgt := 108) B dX5_work_36 (by decide) ?_
      have e1 := Option.some.inj h
      subst e1
      exact j_vret B E rfl dX5_work_108 (Nat.le_refl _) (Nat.le_refl _) ⟨rfl, rfl, rfl, rfl⟩
  · replace h := h_neg c h
    refine j_aload_n B dX5_work_7 rfl 0 rfl ?_
    refine j_iload_n B dX5_work_8 rfl 1 rfl ?_
    obtain ⟨r11, hr11, h⟩ := h_bind h
    refine j_cVV (rest := []) B (tX5_push (ho) hr11) cls5 ((ho).1) jt_RX5_55 wi_X5_push ws_X5_push rfl (by decide) (Nat.le_refl _) (Nat.le_refl _) rfl (Nat.le_of_ble_eq_true rfl) dX5_work_9 ?_
    refine j_goto (tgt := 108) B dX5_work_12 (by decide) ?_
    have e1 := Option.some.inj h
    subst e1
    exact j_vret B E rfl dX5_work_108 (Nat.le_refl _) (Nat.le_refl _) ⟨rfl, rfl, rfl, rfl⟩
def fX5_endOfLine_2 (o : Nat) (vi0 : VI) : Nat → Int32 → Option (Int32)
  | 0, _ => none
  | F + 1, x2 => if (vi0 o 1) ≤ x2 then some (x2) else if inb x2 121 = true then if (vi0 (o + 1) x2.toNatClampNeg) = 20059 then some (x2) else fX5_endOfLine_2 o vi0 F (x2 + 1) else none
theorem tX5_endOfLine_2 {G : GT} {sv : SV} {vi0 : VI} {vl0 : VL} {Γ : CT} {o : Nat} {r : Int32} (B : Base G Γ mX5_endOfLine 0 0 0) (E : Ends G Γ 0 0 (QI r sv vi0 vl0)) (ho : isLaw sv o) : ∀ (F : Nat) (x2 : Int32), fX5_endOfLine_2 o vi0 F x2 = some (r) → J G Γ 0 0 2 [(0, .ref (G.1 + o)), (2, .int x2)] [] sv vi0 vl0 := by
  intro F
  induction F with
  | zero =>
    intro x2  h
    cases (show (none : Option (Int32)) = some (r) from h)
  | succ F ih =>
    intro x2  h
    rw [fX5_endOfLine_2] at h
    refine j_iload_n B dX5_endOfLine_2 rfl 1 rfl ?_
    refine j_aload_n B dX5_endOfLine_3 rfl 0 rfl ?_
    refine gf_RX5_21 B rfl ((ho).1) dX5_endOfLine_4 ?_
    refine j_icmp_ge (tgt := 28) B dX5_endOfLine_7 (by decide) (fun c => ?_) (fun c => ?_)
    · replace h := h_pos c h
      refine j_iload_n B dX5_endOfLine_28 rfl 1 rfl ?_
      have e1 := Option.some.inj h
      subst e1
      exact j_iret B E rfl dX5_endOfLine_29 (Nat.le_refl _) (Nat.le_refl _) ⟨rfl, rfl, rfl, rfl⟩
    · replace h := h_neg c h
      refine j_aload_n B dX5_endOfLine_10 rfl 0 rfl ?_
      refine gf_RX5_11 B rfl ((ho).1) (ho).2.1 dX5_endOfLine_11 ?_
      refine j_iload_n B dX5_endOfLine_14 rfl 1 rfl ?_
      obtain ⟨b1, h⟩ := h_inb h
      refine j_iald B ((ho).2.2.2.2.1) b1 dX5_endOfLine_15 ?_
      refine j_sipush B dX5_endOfLine_16 (v := 20059) (by decide) ?_
      refine j_icmp_eq (tgt := 28) B dX5_endOfLine_19 (by decide) (fun c => ?_) (fun c => ?_)
      · replace h := h_pos c h
        refine j_iload_n B dX5_endOfLine_28 rfl 1 rfl ?_
        have e1 := Option.some.inj h
        subst e1
        exact j_iret B E rfl dX5_endOfLine_29 (Nat.le_refl _) (Nat.le_refl _) ⟨rfl, rfl, rfl, rfl⟩
      · replace h := h_neg c h
        refine j_iinc (v := (x2 + 1)) (L' := [(2, .int (x2 + 1)), (0, .ref (G.1 + o))]) B dX5_endOfLine_22 1 rfl rfl (by decide) rfl ?_
        refine j_goto (tgt := 2) B dX5_endOfLine_25 (by decide) ?_
        refine j_locals [1, 0] rfl ?_
        exact ih ((x2 + 1))  h
def fX5_endOfLine (o : Nat) (x1 : Int32) (vi0 : VI) : Option (Int32) := fX5_endOfLine_2 o vi0 FU x1
theorem tX5_endOfLine {G : GT} {sv : SV} {vi0 : VI} {vl0 : VL} {o : Nat} {x1 : Int32} {r : Int32} (ho : isLaw sv o) (h : fX5_endOfLine o x1 vi0 = some (r)) : Call G mX5_endOfLine 0 0 0 [.ref (G.1 + o), .int x1] sv vi0 vl0 (QI r sv vi0 vl0) := by
  refine j_mk (by decide +kernel) (Nat.le_of_ble_eq_true rfl) (fun Γ B E => ?_)
  show J G Γ 0 0 0 [(0, .ref (G.1 + o)), (1, .int x1)] [] sv vi0 vl0
  unfold fX5_endOfLine at h
  refine j_iload_n B dX5_endOfLine_0 rfl 1 rfl ?_
  refine j_istore_n (L' := [(2, .int x1), (0, .ref (G.1 + o)), (1, .int x1)]) B dX5_endOfLine_1 rfl (by decide) rfl ?_
  refine j_locals [1, 0] rfl ?_
  exact tX5_endOfLine_2 B E ho FU (x1)  h
