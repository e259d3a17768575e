def fX9_judge_62 (ns : Nat) (vi0 : VI) (vl0 : VL) : Nat → Nat → Nat → Int32 → Int32 → Option (Int32)
  | 0, _, _, _, _ => none
  | F + 1, x3, x5, x6, x7 => if x6 ≤ x7 then if (vi0 x5 3) = (vi0 (x3 + 1) 2) then some ((-2)) else some (x6) else if inb x7 60 = true then if inb x7 12 = true then if (lg_cmp (vl0 (x5 + 1) x7.toNatClampNeg) (vi0 ((x3 + 1) + 1) x7.toNatClampNeg).toInt64) = 0 then fX9_judge_62 ns vi0 vl0 F x3 x5 x6 (x7 + 1) else some (x7) else none else none
theorem tX9_judge_62 {G : GT} {sv : SV} {vi0 : VI} {vl0 : VL} {ns : Nat} {Γ : CT} {r : Int32} (B : Base G Γ mX9_judge 3 0 0) (E : Ends G Γ 0 0 (QI r sv vi0 vl0)) (hW : WF sv ns) : ∀ (F : Nat) (x3 : Nat) (x5 : Nat) (x6 : Int32) (x7 : Int32) (h3 : isSill sv x3) (h5 : isShelf sv x5), fX9_judge_62 ns vi0 vl0 F x3 x5 x6 x7 = some (r) → J G Γ 0 0 62 [(3, .ref (G.1 + x3)), (5, .ref (G.1 + x5)), (6, .int x6), (7, .int x7)] [] sv vi0 vl0 := by
  intro F
  induction F with
  | zero =>
    intro x3 x5 x6 x7 h3 h5 h
    cases (show (none : Option (Int32)) = some (r) from h)
  | succ F ih =>
    intro x3 x5 x6 x7 h3 h5 h
    rw [fX9_judge_62] at h
    refine j_iload B dX9_judge_62 3 rfl ?_
    refine j_iload B dX9_judge_64 2 rfl ?_
    refine j_icmp_ge (tgt := 101) B dX9_judge_66 (by decide) (fun c => ?_) (fun c => ?_)
    · replace h := h_pos c h
      refine j_aload B dX9_judge_101 1 rfl ?_
      refine gf_RX9_112 B rfl ((h5).1) dX9_judge_103 ?_
      refine j_aload_n B dX9_judge_106 rfl 0 rfl ?_
      refine gf_RX9_141 B rfl ((h3).1) (h3).2.2.1 dX9_judge_107 ?_
      refine gf_RX9_144 B rfl (((h3).2.2.2.2.2).1) dX9_judge_110 ?_
      refine j_icmp_ne (tgt := 121) B dX9_judge_113 (by decide) (fun c => ?_) (fun c => ?_)
      · replace h := h_neg c h
        refine j_iload B dX9_judge_121 2 rfl ?_
        have e1 := Option.some.inj h
        subst e1
        exact j_iret B E rfl dX9_judge_123 (Nat.le_refl _) (Nat.le_refl _) ⟨rfl, rfl, rfl, rfl⟩
      · replace h := h_pos c h
        refine j_bipush B dX9_judge_116 (v := (-2)) (by decide) ?_
        refine j_goto (tgt := 123) B dX9_judge_118 (by decide) ?_
        have e1 := Option.some.inj h
        subst e1
        exact j_iret B E rfl dX9_judge_123 (Nat.le_refl _) (Nat.le_refl _) ⟨rfl, rfl, rfl, rfl⟩
    · replace h := h_neg c h
      refine j_aload B dX9_judge_69 1 rfl ?_
      refine gf_RX9_115 B rfl ((h5).1) (h5).2.1 dX9_judge_71 ?_
      refine j_iload B dX9_judge_74 3 rfl ?_
      obtain ⟨b6, h⟩ := h_inb h
      refine j_lald B ((h5).2.2) b6 dX9_judge_76 ?_
      refine j_aload_n B dX9_judge_77 rfl 0 rfl ?_
      refine gf_RX9_141 B rfl ((h3).1) (h3).2.2.1 dX9_judge_78 ?_
      refine gf_RX9_262 B rfl (((h3).2.2.2.2.2).1) ((h3).2.2.2.2.2).2.1 dX9_judge_81 ?_
      refine j_iload B dX9_judge_84 3 rfl ?_
      obtain ⟨b7, h⟩ := h_inb h
      refine j_iald B (((h3).2.2.2.2.2).2.2.2.1) b7 dX9_judge_86 ?_
      refine j_i2l B dX9_judge_87 ?_
      refine j_lcmp B dX9_judge_88 ?_
      refine j_if_eq (tgt := 95) B dX9_judge_89 (by decide) (fun c => ?_) (fun c => ?_)
      · replace h := h_pos c h
        refine j_iinc (v := (x7 + 1)) (L' := [(7, .int (x7 + 1)), (3, .ref (G.1 + x3)), (5, .ref (G.1 + x5)), (6, .int x6)]) B dX9_judge_95 3 rfl rfl (by decide) rfl ?_
        refine j_goto (tgt := 62) B dX9_judge_98 (by decide) ?_
        refine j_locals [1, 2, 3, 0] rfl ?_
        exact ih (x3) (x5) (x6) ((x7 + 1)) (h3) (h5) h
      · replace h := h_neg c h
        refine j_iload B dX9_judge_92 3 rfl ?_
        have e1 := Option.some.inj h
        subst e1
        exact j_iret B E rfl dX9_judge_94 (Nat.le_refl _) (Nat.le_refl _) ⟨rfl, rfl, rfl, rfl⟩
def fX9_judge (ns : Nat) (x1 : Int32) (x2 : Int32) (vi0 : VI) (vl0 : VL) : Option (Int32) := (fX9_sillAt ns x2 vi0).bind fun r1 => optS r1 (some ((-1))) fun q2 => (fX9_isShelf x1).bind fun r3 => if r3 = true then (fX9_refusalOfBytes x1 vi0).bind fun r4 => if 0 ≤ r4 then if inb x1 6 = true then fX9_judge_62 ns vi0 vl0 FU q2 (51 + 2 * x1.toNatClampNeg) ((if (vi0 (q2 + 1) 2) < (vi0 (51 + 2 * x1.toNatClampNeg) 3) then (vi0 (q2 + 1) 2) else (vi0 (51 + 2 * x1.toNatClampNeg) 3)) : Int32) 0 else none else some (r4) else some ((-1))
theorem tX9_judge {G : GT} {sv : SV} {vi0 : VI} {vl0 : VL} {ns : Nat} {x1 : Int32} {x2 : Int32} {r : Int32} (hW : WF sv ns) (h : fX9_judge ns x1 x2 vi0 vl0 = some (r)) : Call G mX9_judge 3 0 0 [.ref (G.1 + 0), .int x1, .int x2] sv vi0 vl0 (QI r sv vi0 vl0) := by
  refine j_mk (by decide +kernel) (Nat.le_of_ble_eq_true rfl) (fun Γ B E => ?_)
  show J G Γ 0 0 0 [(0, .ref (G.1 + 0)), (1, .int x1), (2, .int x2)] [] sv vi0 vl0
  unfold fX9_judge at h
  refine j_aload_n B dX9_judge_0 rfl 0 rfl ?_
  refine j_iload_n B dX9_judge_1 rfl 2 rfl ?_
  obtain ⟨r1, hr1, h⟩ := h_bind h
  refine j_cVN (rest := []) B (tX9_sillAt hW hr1) cls9 (wf_2 hW) jt_RX9_137 wi_X9_sillAt ws_X9_sillAt rfl (by decide) (Nat.le_refl _) (Nat.le_refl _) rfl (Nat.le_of_ble_eq_true rfl) dX9_judge_2 ?_
  rcases r1 with _ | q2
  · replace h := h_none h
    refine j_astore_nN (L' := [(3, .null), (0, .ref (G.1 + 0)), (1, .int x1), (2, .int x2)]) B dX9_judge_5 rfl (by decide) rfl ?_
    refine j_aloadN_n B dX9_judge_6 rfl 0 rfl ?_
    refine j_ifnullN (tgt := 17) B dX9_judge_7 (by decide) ?_
    refine j_iconst B dX9_judge_17 (v := (-1)) (by decide) ?_
    have e1 := Option.some.inj h
    subst e1
    exact j_iret B E rfl dX9_judge_18 (Nat.le_refl _) (Nat.le_refl _) ⟨rfl, rfl, rfl, rfl⟩
  · replace h := h_some h
    have is_q2 := sillAt_is hW hr1
    refine j_astore_n (L' := [(3, .ref (G.1 + q2)), (0, .ref (G.1 + 0)), (1, .int x1), (2, .int x2)]) B dX9_judge_5 rfl (by decide) rfl ?_
    refine j_aload_n B dX9_judge_6 rfl 0 rfl ?_
    refine j_ifnull B dX9_judge_7 ?_
    refine j_iload_n B dX9_judge_10 rfl 2 rfl ?_
    obtain ⟨r3, hr3, h⟩ := h_bind h
    refine j_cSI (rest := []) B (tX9_isShelf hr3) jt_RX9_101 wst_X9_isShelf rfl (by decide) (Nat.le_refl _) (Nat.le_refl _) rfl (Nat.le_of_ble_eq_true rfl) dX9_judge_11 ?_
    refine j_if_ne (tgt := 19) B dX9_judge_14 (by decide) (fun c => ?_) (fun c => ?_)
    · replace h := h_pos (b2i_1 c) h
      refine j_aload_n B dX9_judge_19 rfl 1 rfl ?_
      refine j_iload_n B dX9_judge_20 rfl 2 rfl ?_
      obtain ⟨r4, hr4, h⟩ := h_bind h
      refine j_cVI (rest := []) B (tX9_refusalOfBytes hW hr4) cls9 (wf_2 hW) jt_RX9_185 wi_X9_refusalOfBytes ws_X9_refusalOfBytes rfl (by decide) (Nat.le_refl _) (Nat.le_refl _) rfl (Nat.le_of_ble_eq_true rfl) dX9_judge_21 ?_
      refine j_istore (L' := [(4, .int r4), (3, .ref (G.1 + q2)), (0, .ref (G.1 + 0)), (1, .int x1), (2, .int x2)]) B dX9_judge_24 (by decide) rfl ?_
      refine j_iload B dX9_judge_26 0 rfl ?_
      refine j_if_ge (tgt := 34) B dX9_judge_28 (by decide) (fun c => ?_) (fun c => ?_)
      · replace h := h_pos c h
        refine j_aload_n B dX9_judge_34 rfl 2 rfl ?_
        refine gf_RX9_79 B rfl (wf_2 hW) (wf_149 hW) dX9_judge_35 ?_
        refine j_iload_n B dX9_judge_38 rfl 3 rfl ?_
        obtain ⟨b5, h⟩ := h_inb h
        refine j_aald B (wf_52 hW) (Or.inr (Or.inl rfl)) b5 (wf_shv hW b5) dX9_judge_39 ?_
        refine j_astore (L' := [(5, .ref (G.1 + (51 + 2 * x1.toNatClampNeg))), (4, .int r4), (3, .ref (G.1 + q2)), (0, .ref (G.1 + 0)), (1, .int x1), (2, .int x2)]) B dX9_judge_40 (by decide) rfl ?_
        refine j_aload B dX9_judge_42 0 rfl ?_
        refine gf_RX9_112 B rfl ((wf_shelf hW b5).1) dX9_judge_44 ?_
        refine j_aload_n B dX9_judge_47 rfl 2 rfl ?_
        refine gf_RX9_141 B rfl ((is_q2).1) (is_q2).2.2.1 dX9_judge_48 ?_
        refine gf_RX9_144 B rfl (((is_q2).2.2.2.2.2).1) dX9_judge_51 ?_
        refine j_mmin B (jt_RX9_271).2.2.1 wst_J9_min_7cf53 wini_RJ9 wcm_min (by decide) (Nat.le_refl _) (Nat.le_refl _) (Nat.le_of_ble_eq_true rfl) dX9_judge_54 ?_
        refine j_istore (L' := [(6, .int ((if (vi0 (q2 + 1) 2) < (vi0 (51 + 2 * x1.toNatClampNeg) 3) then (vi0 (q2 + 1) 2) else (vi0 (51 + 2 * x1.toNatClampNeg) 3)) : Int32)), (5, .ref (G.1 + (51 + 2 * x1.toNatClampNeg))), (4, .int r4), (3, .ref (G.1 + q2)), (0, .ref (G.1 + 0)), (1, .int x1), (2, .int x2)]) B dX9_judge_57 (by decide) rfl ?_
        refine j_iconst B dX9_judge_59 (v := 0) (by decide) ?_
        refine j_istore (L' := [(7, .int 0), (6, .int ((if (vi0 (q2 + 1) 2) < (vi0 (51 + 2 * x1.toNatClampNeg) 3) then (vi0 (q2 + 1) 2) else (vi0 (51 + 2 * x1.toNatClampNeg) 3)) : Int32)), (5, .ref (G.1 + (51 + 2 * x1.toNatClampNeg))), (4, .int r4), (3, .ref (G.1 + q2)), (0, .ref (G.1 + 0)), (1, .int x1), (2, .int x2)]) B dX9_judge_60 (by decide) rfl ?_
        refine j_locals [4, 2, 1, 0] rfl ?_
        exact tX9_judge_62 B E hW FU (q2) ((51 + 2 * x1.toNatClampNeg)) (((if (vi0 (q2 + 1) 2) < (vi0 (51 + 2 * x1.toNatClampNeg) 3) then (vi0 (q2 + 1) 2) else (vi0 (51 + 2 * x1.toNatClampNeg) 3)) : Int32)) (0) (is_q2) (wf_shelf hW b5) h
      · replace h := h_neg c h
        refine j_iload B dX9_judge_31 0 rfl ?_
        have e1 := Option.some.inj h
        subst e1
        exact j_iret B E rfl dX9_judge_33 (Nat.le_refl _) (Nat.le_refl _) ⟨rfl, rfl, rfl, rfl⟩
    · replace h := h_neg (b2i_0 c) h
      refine j_iconst B dX9_judge_17 (v := (-1)) (by decide) ?_
      have e1 := Option.some.inj h
      subst e1
      exact j_iret B E rfl dX9_judge_18 (Nat.le_refl _) (Nat.le_refl _) ⟨rfl, rfl, rfl, rfl⟩
def fX9_drawn_186 (ns : Nat) (k77 : Int32 → Nat → Int32 → Int32 → Int32 → Int32 → Int32 → VI → Option (Int32 × VI)) (x4 : Int32) (x5 : Nat) (x6 : Int32) (x7 : Int32) (x8 : Int32) (x9 : Int32) (x10 : Int32) (vi : VI) : Option (Int32 × VI) := k77 x4 x5 x6 x7 x8 x9 (x10 + 1) vi
theorem tX9_drawn_186 {G : GT} {sv : SV} {vl0 : VL} {ns : Nat} {Γ : CT} {r : Int32} {vi' : VI} {k77 : Int32 → Nat → Int32 → Int32 → Int32 → Int32 → Int32 → VI → Option (Int32 × VI)} (B : Base G Γ mX9_drawn 5 0 0) (E : Ends G Γ 0 0 (QI r sv vi' vl0)) (hW : WF sv ns) (hk77 : ∀ (x4 : Int32) (x5 : Nat) (x6 : Int32) (x7 : Int32) (x8 : Int32) (x9 : Int32) (x10 : Int32) (vi : VI) (h5 : isSill sv x5), k77 x4 x5 x6 x7 x8 x9 x10 vi = some (r, vi') → J G Γ 0 0 77 [(0, .ref (G.1 + 0)), (4, .int x4), (5, .ref (G.1 + x5)), (6, .int x6), (7, .int x7), (8, .int x8), (9, .int x9), (10, .int x10)] [] sv vi vl0) : ∀ (x4 : Int32) (x5 : Nat) (x6 : Int32) (x7 : Int32) (x8 : Int32) (x9 : Int32) (x10 : Int32) (vi : VI) (h5 : isSill sv x5), fX9_drawn_186 ns k77 x4 x5 x6 x7 x8 x9 x10 vi = some (r, vi') → J G Γ 0 0 186 [(0, .ref (G.1 + 0)), (4, .int x4), (5, .ref (G.1 + x5)), (6, .int x6), (7, .int x7), (8, .int x8), (9, .int x9), (10, .int x10)] [] sv vi vl0 := by
  intro x4 x5 x6 x7 x8 x9 x10 vi h5 h
  unfold fX9_drawn_186 at h
  refine j_iinc (v := (x10 + 1)) (L' := [(10, .int (x10 + 1)), (0, .ref (G.1 + 0)), (4, .int x4), (5, .ref (G.1 + x5)), (6, .int x6), (7, .int x7), (8, .int x8), (9, .int x9)]) B dX9_drawn_186 7 rfl rfl (by decide) rfl ?_
  refine j_goto (tgt := 77) B dX9_drawn_189 (by decide) ?_
  refine j_locals [1, 2, 3, 4, 5, 6, 7, 0] rfl ?_
  exact hk77 (x4) (x5) (x6) (x7) (x8) (x9) ((x10 + 1)) (vi) (h5) h
def fX9_drawn_99 (ns : Nat) (k77 : Int32 → Nat → Int32 → Int32 → Int32 → Int32 → Int32 → VI → Option (Int32 × VI)) : Nat → Int32 → Nat → Int32 → Int32 → Int32 → Int32 → Int32 → Int32 → VI → Option (Int32 × VI)
  | 0, _, _, _, _, _, _, _, _, _ => none
  | F + 1, x4, x5, x6, x7, x8, x9, x10, x11, vi => if x7 ≤ x11 then if x4 = (-1) then fX9_drawn_186 ns k77 x4 x5 x6 x7 x8 (x9 + (vi 13 2)) x10 vi else (fX3_uppermost 13 vi).bind fun r4 => if r4 = x4 then fX9_drawn_186 ns k77 x4 x5 x6 x7 x8 (x9 + 1) x10 vi else fX9_drawn_186 ns k77 x4 x5 x6 x7 x8 x9 x10 vi else (fX7_layOn x5 13 (((((x8 * 1103515245) + 12345).toUInt32 >>> (((8) : Int32).toUInt32 &&& Int32.toUInt32 31)).toInt32) - ((((x8 * 1103515245) + 12345).toUInt32 >>> (((8) : Int32).toUInt32 &&& Int32.toUInt32 31)).toInt32) / 6 * 6) (((((x8 * 1103515245) + 12345).toUInt32 >>> (((16) : Int32).toUInt32 &&& Int32.toUInt32 31)).toInt32) - ((((x8 * 1103515245) + 12345).toUInt32 >>> (((16) : Int32).toUInt32 &&& Int32.toUInt32 31)).toInt32) / 10 * 10) vi).bind fun r5 => fX9_drawn_99 ns k77 F x4 x5 x6 x7 ((x8 * 1103515245) + 12345) x9 x10 (x11 + 1) r5.2
theorem tX9_drawn_99 {G : GT} {sv : SV} {vl0 : VL} {ns : Nat} {Γ : CT} {r : Int32} {vi' : VI} {k77 : Int32 → Nat → Int32 → Int32 → Int32 → Int32 → Int32 → VI → Option (Int32 × VI)} (B : Base G Γ mX9_drawn 5 0 0) (E : Ends G Γ 0 0 (QI r sv vi' vl0)) (hW : WF sv ns) (hk77 : ∀ (x4 : Int32) (x5 : Nat) (x6 : Int32) (x7 : Int32) (x8 : Int32) (x9 : Int32) (x10 : Int32) (vi : VI) (h5 : isSill sv x5), k77 x4 x5 x6 x7 x8 x9 x10 vi = some (r, vi') → J G Γ 0 0 77 [(0, .ref (G.1 + 0)), (4, .int x4), (5, .ref (G.1 + x5)), (6, .int x6), (7, .int x7), (8, .int x8), (9, .int x9), (10, .int x10)] [] sv vi vl0) : ∀ (F : Nat) (x4 : Int32) (x5 : Nat) (x6 : Int32) (x7 : Int32) (x8 : Int32) (x9 : Int32) (x10 : Int32) (x11 : Int32) (vi : VI) (h5 : isSill sv x5), fX9_drawn_99 ns k77 F x4 x5 x6 x7 x8 x9 x10 x11 vi = some (r, vi') → J G Γ 0 0 99 [(0, .ref (G.1 + 0)), (4, .int x4), (5, .ref (G.1 + x5)), (6, .int x6), (7, .int x7), (8, .int x8), (9, .int x9), (10, .int x10), (11, .int x11)] [] sv vi vl0 := by
  intro F
  induction F with
  | zero =>
    intro x4 x5 x6 x7 x8 x9 x10 x11 vi h5 h
    cases (show (none : Option (Int32 × VI)) = some (r, vi') from h)
  | succ F ih =>
    intro x4 x5 x6 x7 x8 x9 x10 x11 vi h5 h
    rw [fX9_drawn_99] at h
    refine j_iload B dX9_drawn_99 8 rfl ?_
    refine j_iload B dX9_drawn_101 4 rfl ?_
    refine j_icmp_ge (tgt := 150) B dX9_drawn_103 (by decide) (fun c => ?_) (fun c => ?_)
    · replace h := h_pos c h
      refine j_iload B dX9_drawn_150 1 rfl ?_
      refine j_iconst B dX9_drawn_152 (v := (-1)) (by decide) ?_
      refine j_icmp_ne (tgt := 171) B dX9_drawn_153 (by decide) (fun c => ?_) (fun c => ?_)
      · replace h := h_neg c h
        refine j_aload_n B dX9_drawn_171 rfl 0 rfl ?_
        refine gf_RX9_39 B rfl (wf_2 hW) (wf_112 hW) dX9_drawn_172 ?_
        obtain ⟨r4, hr4, h⟩ := h_bind h
        refine j_cVI (rest := []) B (tX3_uppermost ((wf_dust13 hW)) hr4) cls3 (wf_15 hW) jt_RX9_207 wi_X3_uppermost ws_X3_uppermost rfl (by decide) (Nat.le_refl _) (Nat.le_refl _) rfl (Nat.le_of_ble_eq_true rfl) dX9_drawn_175 ?_
        refine j_iload B dX9_drawn_178 1 rfl ?_
        refine j_icmp_ne (tgt := 186) B dX9_drawn_180 (by decide) (fun c => ?_) (fun c => ?_)
        · replace h := h_neg c h
          refine j_locals [0, 1, 2, 3, 4, 5, 6, 7] rfl ?_
          exact tX9_drawn_186 B E hW hk77 (x4) (x5) (x6) (x7) (x8) (x9) (x10) (vi) (h5) h
        · replace h := h_pos c h
          refine j_iinc (v := (x9 + 1)) (L' := [(9, .int (x9 + 1)), (0, .ref (G.1 + 0)), (4, .int x4), (5, .ref (G.1 + x5)), (6, .int x6), (7, .int x7), (8, .int x8), (10, .int x10), (11, .int x11)]) B dX9_drawn_183 6 rfl rfl (by decide) rfl ?_
          refine j_locals [1, 2, 3, 4, 5, 6, 0, 7] rfl ?_
          exact tX9_drawn_186 B E hW hk77 (x4) (x5) (x6) (x7) (x8) ((x9 + 1)) (x10) (vi) (h5) h
      · replace h := h_pos c h
        refine j_iload B dX9_drawn_156 6 rfl ?_
        refine j_aload_n B dX9_drawn_158 rfl 0 rfl ?_
        refine gf_RX9_39 B rfl (wf_2 hW) (wf_112 hW) dX9_drawn_159 ?_
        refine gf_RX9_144 B rfl (wf_15 hW) dX9_drawn_162 ?_
        refine j_iadd B dX9_drawn_165 ?_
        refine j_istore (L' := [(9, .int (x9 + (vi 13 2))), (0, .ref (G.1 + 0)), (4, .int x4), (5, .ref (G.1 + x5)), (6, .int x6), (7, .int x7), (8, .int x8), (10, .int x10), (11, .int x11)]) B dX9_drawn_166 (by decide) rfl ?_
        refine j_goto (tgt := 186) B dX9_drawn_168 (by decide) ?_
        refine j_locals [1, 2, 3, 4, 5, 6, 0, 7] rfl ?_
        exact tX9_drawn_186 B E hW hk77 (x4) (x5) (x6) (x7) (x8) ((x9 + (vi 13 2))) (x10) (vi) (h5) h
    · replace h := h_neg c h
      refine j_iload B dX9_drawn_106 5 rfl ?_
      refine j_ldcw B wk_RX9_276 dX9_drawn_108 ?_
      refine j_imul B dX9_drawn_111 ?_
      refine j_sipush B dX9_drawn_112 (v := 12345) (by decide) ?_
      refine j_iadd B dX9_drawn_115 ?_
      refine j_istore (L' := [(8, .int ((x8 * 1103515245) + 12345)), (0, .ref (G.1 + 0)), (4, .int x4), (5, .ref (G.1 + x5)), (6, .int x6), (7, .int x7), (9, .int x9), (10, .int x10), (11, .int x11)]) B dX9_drawn_116 (by decide) rfl ?_
      refine j_aload B dX9_drawn_118 3 rfl ?_
      refine j_aload_n B dX9_drawn_120 rfl 1 rfl ?_
      refine gf_RX9_39 B rfl (wf_2 hW) (wf_112 hW) dX9_drawn_121 ?_
      refine j_iload B dX9_drawn_124 0 rfl ?_
      refine j_bipush B dX9_drawn_126 (v := 8) (by decide) ?_
      refine j_iushr B dX9_drawn_128 ?_
      refine j_bipush B dX9_drawn_129 (v := 6) (by decide) ?_
      refine j_irem B dX9_drawn_131 (by decide) ?_
      refine j_iload B dX9_drawn_132 0 rfl ?_
      refine j_bipush B dX9_drawn_134 (v := 16) (by decide) ?_
      refine j_iushr B dX9_drawn_136 ?_
      refine j_bipush B dX9_drawn_137 (v := 10) (by decide) ?_
      refine j_irem B dX9_drawn_139 (by decide) ?_
      obtain ⟨r5, hr5, h⟩ := h_bind h
      refine j_cVI (rest := []) B (tX7_layOn hW (h5) ((wf_dust13 hW)) hr5) cls7 ((h5).1) jt_RX9_219 wi_X7_layOn ws_X7_layOn rfl (by decide) (Nat.le_refl _) (Nat.le_refl _) rfl (Nat.le_of_ble_eq_true rfl) dX9_drawn_140 ?_
      refine j_pop B dX9_drawn_143 rfl ?_
      refine j_iinc (v := (x11 + 1)) (L' := [(11, .int (x11 + 1)), (8, .int ((x8 * 1103515245) + 12345)), (0, .ref (G.1 + 0)), (4, .int x4), (5, .ref (G.1 + x5)), (6, .int x6), (7, .int x7), (9, .int x9), (10, .int x10)]) B dX9_drawn_144 8 rfl rfl (by decide) rfl ?_
      refine j_goto (tgt := 99) B dX9_drawn_147 (by decide) ?_
      refine j_locals [2, 3, 4, 5, 6, 1, 7, 8, 0] rfl ?_
      exact ih (x4) (x5) (x6) (x7) (((x8 * 1103515245) + 12345)) (x9) (x10) ((x11 + 1)) (r5.2) (h5) h
def fX9_drawn_77 (ns : Nat) : Nat → Int32 → Nat → Int32 → Int32 → Int32 → Int32 → Int32 → VI → Option (Int32 × VI)
  | 0, _, _, _, _, _, _, _, _ => none
  | F + 1, x4, x5, x6, x7, x8, x9, x10, vi => if x6 ≤ x10 then some (x9, vi) else (fX3_become 13 (x5 + 1) vi).bind fun r3 => fX9_drawn_99 ns (fX9_drawn_77 ns F) FU x4 x5 x6 x7 x8 x9 x10 0 r3
theorem tX9_drawn_77 {G : GT} {sv : SV} {vl0 : VL} {ns : Nat} {Γ : CT} {r : Int32} {vi' : VI} (B : Base G Γ mX9_drawn 5 0 0) (E : Ends G Γ 0 0 (QI r sv vi' vl0)) (hW : WF sv ns) : ∀ (F : Nat) (x4 : Int32) (x5 : Nat) (x6 : Int32) (x7 : Int32) (x8 : Int32) (x9 : Int32) (x10 : Int32) (vi : VI) (h5 : isSill sv x5), fX9_drawn_77 ns F x4 x5 x6 x7 x8 x9 x10 vi = some (r, vi') → J G Γ 0 0 77 [(0, .ref (G.1 + 0)), (4, .int x4), (5, .ref (G.1 + x5)), (6, .int x6), (7, .int x7), (8, .int x8), (9, .int x9), (10, .int x10)] [] sv vi vl0 := by
  intro F
  induction F with
  | zero =>
    intro x4 x5 x6 x7 x8 x9 x10 vi h5 h
    cases (show (none : Option (Int32 × VI)) = some (r, vi') from h)
  | succ F ih =>
    intro x4 x5 x6 x7 x8 x9 x10 vi h5 h
    rw [fX9_drawn_77] at h
    refine j_iload B dX9_drawn_77 7 rfl ?_
    refine j_iload B dX9_drawn_79 3 rfl ?_
    refine j_icmp_ge (tgt := 192) B dX9_drawn_81 (by decide) (fun c => ?_) (fun c => ?_)
    · replace h := h_pos c h
      refine j_iload B dX9_drawn_192 6 rfl ?_
      obtain ⟨e1, e2⟩ := Prod.mk.inj (Option.some.inj h)
      subst e1
      subst e2
      exact j_iret B E rfl dX9_drawn_194 (Nat.le_refl _) (Nat.le_refl _) ⟨rfl, rfl, rfl, rfl⟩
    · replace h := h_neg c h
      refine j_aload_n B dX9_drawn_84 rfl 0 rfl ?_
      refine gf_RX9_39 B rfl (wf_2 hW) (wf_112 hW) dX9_drawn_85 ?_
      refine j_aload B dX9_drawn_88 2 rfl ?_
      refine gf_RX9_141 B rfl ((h5).1) (h5).2.2.1 dX9_drawn_90 ?_
      obtain ⟨r3, hr3, h⟩ := h_bind h
      refine j_cVV (rest := []) B (tX3_become ((wf_dust13 hW)) ((h5).2.2.2.2.2) hr3) cls3 (wf_15 hW) jt_RX9_201 wi_X3_become ws_X3_become rfl (by decide) (Nat.le_refl _) (Nat.le_refl _) rfl (Nat.le_of_ble_eq_true rfl) dX9_drawn_93 ?_
      refine j_iconst B dX9_drawn_96 (v := 0) (by decide) ?_
      refine j_istore (L' := [(11, .int 0), (0, .ref (G.1 + 0)), (4, .int x4), (5, .ref (G.1 + x5)), (6, .int x6), (7, .int x7), (8, .int x8), (9, .int x9), (10, .int x10)]) B dX9_drawn_97 (by decide) rfl ?_
      refine j_locals [1, 2, 3, 4, 5, 6, 7, 8, 0] rfl ?_
      exact tX9_drawn_99 B E hW ih FU (x4) (x5) (x6) (x7) (x8) (x9) (x10) (0) (r3) (h5) h
def fX9_drawn_68 (ns : Nat) (x1 : Int32) (x4 : Int32) (x5 : Nat) (x6 : Int32) (x7 : Int32) (vi : VI) : Option (Int32 × VI) := fX9_drawn_77 ns FU x4 x5 x6 x7 x1 0 0 vi
theorem tX9_drawn_68 {G : GT} {sv : SV} {vl0 : VL} {ns : Nat} {Γ : CT} {r : Int32} {vi' : VI} (B : Base G Γ mX9_drawn 5 0 0) (E : Ends G Γ 0 0 (QI r sv vi' vl0)) (hW : WF sv ns) : ∀ (x1 : Int32) (x4 : Int32) (x5 : Nat) (x6 : Int32) (x7 : Int32) (vi : VI) (h5 : isSill sv x5), fX9_drawn_68 ns x1 x4 x5 x6 x7 vi = some (r, vi') → J G Γ 0 0 68 [(0, .ref (G.1 + 0)), (1, .int x1), (4, .int x4), (5, .ref (G.1 + x5)), (6, .int x6), (7, .int x7)] [] sv vi vl0 := by
  intro x1 x4 x5 x6 x7 vi h5 h
  unfold fX9_drawn_68 at h
  refine j_iload_n B dX9_drawn_68 rfl 1 rfl ?_
  refine j_istore (L' := [(8, .int x1), (0, .ref (G.1 + 0)), (1, .int x1), (4, .int x4), (5, .ref (G.1 + x5)), (6, .int x6), (7, .int x7)]) B dX9_drawn_69 (by decide) rfl ?_
  refine j_iconst B dX9_drawn_71 (v := 0) (by decide) ?_
  refine j_istore (L' := [(9, .int 0), (8, .int x1), (0, .ref (G.1 + 0)), (1, .int x1), (4, .int x4), (5, .ref (G.1 + x5)), (6, .int x6), (7, .int x7)]) B dX9_drawn_72 (by decide) rfl ?_
  refine j_iconst B dX9_drawn_74 (v := 0) (by decide) ?_
  refine j_istore (L' := [(10, .int 0), (9, .int 0), (8, .int x1), (0, .ref (G.1 + 0)), (1, .int x1), (4, .int x4), (5, .ref (G.1 + x5)), (6, .int x6), (7, .int x7)]) B dX9_drawn_75 (by decide) rfl ?_
  refine j_locals [3, 5, 6, 7, 8, 2, 1, 0] rfl ?_
  exact tX9_drawn_77 B E hW FU (x4) (x5) (x6) (x7) (x1) (0) (0) (vi) (h5) h
def fX9_drawn (ns : Nat) (x1 : Int32) (x2 : Int32) (x3 : Int32) (x4 : Int32) (vi0 : VI) : Option (Int32 × VI) := (fX9_sillAt ns x3 vi0).bind fun r1 => optS r1 (some ((-1), vi0)) fun q2 => if (x2 / 100) < 1 then some ((-1), vi0) else if 30 < (x2 / 100) then some ((-1), vi0) else if (x2 - x2 / 100 * 100) < 1 then some ((-1), vi0) else if (x2 - x2 / 100 * 100) ≤ 40 then if x4 = (-1) then fX9_drawn_68 ns x1 x4 q2 (x2 / 100) (x2 - x2 / 100 * 100) vi0 else (fX9_isOne x4).bind fun r6 => if r6 = true then fX9_drawn_68 ns x1 x4 q2 (x2 / 100) (x2 - x2 / 100 * 100) vi0 else some ((-1), vi0) else some ((-1), vi0)
theorem tX9_drawn {G : GT} {sv : SV} {vi0 : VI} {vl0 : VL} {ns : Nat} {x1 : Int32} {x2 : Int32} {x3 : Int32} {x4 : Int32} {r : Int32} {vi' : VI} (hW : WF sv ns) (h : fX9_drawn ns x1 x2 x3 x4 vi0 = some (r, vi')) : Call G mX9_drawn 5 0 0 [.ref (G.1 + 0), .int x1, .int x2, .int x3, .int x4] sv vi0 vl0 (QI r sv vi' vl0) := by
  refine j_mk (by decide +kernel) (Nat.le_of_ble_eq_true rfl) (fun Γ B E => ?_)
  show J G Γ 0 0 0 [(0, .ref (G.1 + 0)), (1, .int x1), (2, .int x2), (3, .int x3), (4, .int x4)] [] sv vi0 vl0
  unfold fX9_drawn at h
  refine j_aload_n B dX9_drawn_0 rfl 0 rfl ?_
  refine j_iload_n B dX9_drawn_1 rfl 3 rfl ?_
  obtain ⟨r1, hr1, h⟩ := h_bind h
  refine j_cVN (rest := []) B (tX9_sillAt hW hr1) cls9 (wf_2 hW) jt_RX9_137 wi_X9_sillAt ws_X9_sillAt rfl (by decide) (Nat.le_refl _) (Nat.le_refl _) rfl (Nat.le_of_ble_eq_true rfl) dX9_drawn_2 ?_
  rcases r1 with _ | q2
  · replace h := h_none h
    refine j_astoreN (L' := [(5, .null), (0, .ref (G.1 + 0)), (1, .int x1), (2, .int x2), (3, .int x3), (4, .int x4)]) B dX9_drawn_5 (by decide) rfl ?_
    refine j_iload_n B dX9_drawn_7 rfl 3 rfl ?_
    refine j_bipush B dX9_drawn_8 (v := 100) (by decide) ?_
    refine j_idiv B dX9_drawn_10 (by decide) ?_
    refine j_istore (L' := [(6, .int (x2 / 100)), (5, .null), (0, .ref (G.1 + 0)), (1, .int x1), (2, .int x2), (3, .int x3), (4, .int x4)]) B dX9_drawn_11 (by decide) rfl ?_
    refine j_iload_n B dX9_drawn_13 rfl 4 rfl ?_
    refine j_bipush B dX9_drawn_14 (v := 100) (by decide) ?_
    refine j_irem B dX9_drawn_16 (by decide) ?_
    refine j_istore (L' := [(7, .int (x2 - x2 / 100 * 100)), (6, .int (x2 / 100)), (5, .null), (0, .ref (G.1 + 0)), (1, .int x1), (2, .int x2), (3, .int x3), (4, .int x4)]) B dX9_drawn_17 (by decide) rfl ?_
    refine j_aloadN B dX9_drawn_19 2 rfl ?_
    refine j_ifnullN (tgt := 50) B dX9_drawn_21 (by decide) ?_
    refine j_iconst B dX9_drawn_50 (v := (-1)) (by decide) ?_
    obtain ⟨e1, e2⟩ := Prod.mk.inj (Option.some.inj h)
    subst e1
    subst e2
    exact j_iret B E rfl dX9_drawn_51 (Nat.le_refl _) (Nat.le_refl _) ⟨rfl, rfl, rfl, rfl⟩
  · replace h := h_some h
    have is_q2 := sillAt_is hW hr1
    refine j_astore (L' := [(5, .ref (G.1 + q2)), (0, .ref (G.1 + 0)), (1, .int x1), (2, .int x2), (3, .int x3), (4, .int x4)]) B dX9_drawn_5 (by decide) rfl ?_
    refine j_iload_n B dX9_drawn_7 rfl 3 rfl ?_
    refine j_bipush B dX9_drawn_8 (v := 100) (by decide) ?_
    refine j_idiv B dX9_drawn_10 (by decide) ?_
    refine j_istore (L' := [(6, .int (x2 / 100)), (5, .ref (G.1 + q2)), (0, .ref (G.1 + 0)), (1, .int x1), (2, .int x2), (3, .int x3), (4, .int x4)]) B dX9_drawn_11 (by decide) rfl ?_
    refine j_iload_n B dX9_drawn_13 rfl 4 rfl ?_
    refine j_bipush B dX9_drawn_14 (v := 100) (by decide) ?_
    refine j_irem B dX9_drawn_16 (by decide) ?_
    refine j_istore (L' := [(7, .int (x2 - x2 / 100 * 100)), (6, .int (x2 / 100)), (5, .ref (G.1 + q2)), (0, .ref (G.1 + 0)), (1, .int x1), (2, .int x2), (3, .int x3), (4, .int x4)]) B dX9_drawn_17 (by decide) rfl ?_
    refine j_aload B dX9_drawn_19 2 rfl ?_
    refine j_ifnull B dX9_drawn_21 ?_
    refine j_iload B dX9_drawn_24 1 rfl ?_
    refine j_iconst B dX9_drawn_26 (v := 1) (by decide) ?_
    refine j_icmp_lt (tgt := 50) B dX9_drawn_27 (by decide) (fun c => ?_) (fun c => ?_)
    · replace h := h_pos c h
      refine j_iconst B dX9_drawn_50 (v := (-1)) (by decide) ?_
      obtain ⟨e1, e2⟩ := Prod.mk.inj (Option.some.inj h)
      subst e1
      subst e2
      exact j_iret B E rfl dX9_drawn_51 (Nat.le_refl _) (Nat.le_refl _) ⟨rfl, rfl, rfl, rfl⟩
    · replace h := h_neg c h
      refine j_iload B dX9_drawn_30 1 rfl ?_
      refine j_bipush B dX9_drawn_32 (v := 30) (by decide) ?_
      refine j_icmp_gt (tgt := 50) B dX9_drawn_34 (by decide) (fun c => ?_) (fun c => ?_)
      · replace h := h_pos c h
        refine j_iconst B dX9_drawn_50 (v := (-1)) (by decide) ?_
        obtain ⟨e1, e2⟩ := Prod.mk.inj (Option.some.inj h)
        subst e1
        subst e2
        exact j_iret B E rfl dX9_drawn_51 (Nat.le_refl _) (Nat.le_refl _) ⟨rfl, rfl, rfl, rfl⟩
      · replace h := h_neg c h
        refine j_iload B dX9_drawn_37 0 rfl ?_
        refine j_iconst B dX9_drawn_39 (v := 1) (by decide) ?_
        refine j_icmp_lt (tgt := 50) B dX9_drawn_40 (by decide) (fun c => ?_) (fun c => ?_)
        · replace h := h_pos c h
          refine j_iconst B dX9_drawn_50 (v := (-1)) (by decide) ?_
          obtain ⟨e1, e2⟩ := Prod.mk.inj (Option.some.inj h)
          subst e1
          subst e2
          exact j_iret B E rfl dX9_drawn_51 (Nat.le_refl _) (Nat.le_refl _) ⟨rfl, rfl, rfl, rfl⟩
        · replace h := h_neg c h
          refine j_iload B dX9_drawn_43 0 rfl ?_
          refine j_bipush B dX9_drawn_45 (v := 40) (by decide) ?_
          refine j_icmp_le (tgt := 52) B dX9_drawn_47 (by decide) (fun c => ?_) (fun c => ?_)
          · replace h := h_pos c h
            refine j_iload B dX9_drawn_52 7 rfl ?_
            refine j_iconst B dX9_drawn_54 (v := (-1)) (by decide) ?_
            refine j_icmp_eq (tgt := 68) B dX9_drawn_55 (by decide) (fun c => ?_) (fun c => ?_)
            · replace h := h_pos c h
              refine j_locals [3, 4, 7, 2, 1, 0] rfl ?_
              exact tX9_drawn_68 B E hW (x1) (x4) (q2) ((x2 / 100)) ((x2 - x2 / 100 * 100)) (vi0) (is_q2) h
            · replace h := h_neg c h
              refine j_iload B dX9_drawn_58 7 rfl ?_
              obtain ⟨r6, hr6, h⟩ := h_bind h
              refine j_cSI (rest := []) B (tX9_isOne hr6) jt_RX9_210 wst_X9_isOne rfl (by decide) (Nat.le_refl _) (Nat.le_refl _) rfl (Nat.le_of_ble_eq_true rfl) dX9_drawn_60 ?_
              refine j_if_ne (tgt := 68) B dX9_drawn_63 (by decide) (fun c => ?_) (fun c => ?_)
              · replace h := h_pos (b2i_1 c) h
                refine j_locals [3, 4, 7, 2, 1, 0] rfl ?_
                exact tX9_drawn_68 B E hW (x1) (x4) (q2) ((x2 / 100)) ((x2 - x2 / 100 * 100)) (vi0) (is_q2) h
              · replace h := h_neg (b2i_0 c) h
                refine j_iconst B dX9_drawn_66 (v := (-1)) (by decide) ?_
                obtain ⟨e1, e2⟩ := Prod.mk.inj (Option.some.inj h)
                subst e1
                subst e2
                exact j_iret B E rfl dX9_drawn_67 (Nat.le_refl _) (Nat.le_refl _) ⟨rfl, rfl, rfl, rfl⟩
          · replace h := h_neg c h
            refine j_iconst B dX9_drawn_50 (v := (-1)) (by decide) ?_
            obtain ⟨e1, e2⟩ := Prod.mk.inj (Option.some.inj h)
            subst e1
            subst e2
            exact j_iret B E rfl dX9_drawn_51 (Nat.le_refl _) (Nat.le_refl _) ⟨rfl, rfl, rfl, rfl⟩
def fX9_look_13 (ns : Nat) : Nat → Int32 → Int32 → Int32 → VI → Option (Int32 × VI)
  | 0, _, _, _, _ => none
  | F + 1, x1, x2, x3, vi => if (vi 0 1) ≤ x3 then some (x2, (j_up (j_up vi 23 (0 : Int32).toNatClampNeg ((vi 23 (0 : Int32).toNatClampNeg) + 1)) 23 (1 : Int32).toNatClampNeg (((j_up vi 23 (0 : Int32).toNatClampNeg ((vi 23 (0 : Int32).toNatClampNeg) + 1)) 23 (1 : Int32).toNatClampNeg) + x2))) else if inb x3 ns = true then (fX9_whomOf x1).bind fun r3 => (fX9_muchOf x1 vi).bind fun r4 => (fX7_layOn (98 + 5 * x3.toNatClampNeg) ((98 + 5 * x3.toNatClampNeg) + 1) r3 r4 vi).bind fun r5 => fX9_look_13 ns F x1 (x2 + r5.1) (x3 + 1) r5.2 else none
theorem tX9_look_13 {G : GT} {sv : SV} {vl0 : VL} {ns : Nat} {Γ : CT} {r : Int32} {vi' : VI} (B : Base G Γ mX9_look 5 0 0) (E : Ends G Γ 0 0 (QI r sv vi' vl0)) (hW : WF sv ns) : ∀ (F : Nat) (x1 : Int32) (x2 : Int32) (x3 : Int32) (vi : VI), fX9_look_13 ns F x1 x2 x3 vi = some (r, vi') → J G Γ 0 0 13 [(0, .ref (G.1 + 0)), (1, .int x1), (2, .int x2), (3, .int x3)] [] sv vi vl0 := by
  intro F
  induction F with
  | zero =>
    intro x1 x2 x3 vi  h
    cases (show (none : Option (Int32 × VI)) = some (r, vi') from h)
  | succ F ih =>
    intro x1 x2 x3 vi  h
    rw [fX9_look_13] at h
    refine j_iload_n B dX9_look_13 rfl 3 rfl ?_
    refine j_aload_n B dX9_look_14 rfl 0 rfl ?_
    refine gf_RX9_94 B rfl (wf_2 hW) dX9_look_15 ?_
    refine j_icmp_ge (tgt := 57) B dX9_look_18 (by decide) (fun c => ?_) (fun c => ?_)
    · replace h := h_pos c h
      refine j_aload_n B dX9_look_57 rfl 0 rfl ?_
      refine gf_RX9_53 B rfl (wf_2 hW) (wf_120 hW) dX9_look_58 ?_
      refine j_iconst B dX9_look_61 (v := 0) (by decide) ?_
      refine j_dup2 B dX9_look_62 rfl rfl ?_
      refine j_iald B ((wf_25 hW)) (vp_in_iff.mpr ⟨by decide, by decide⟩) dX9_look_63 ?_
      refine j_iconst B dX9_look_64 (v := 1) (by decide) ?_
      refine j_iadd B dX9_look_65 ?_
      refine j_iast B ((wf_25 hW)) (vp_in_iff.mpr ⟨by decide, by decide⟩) dX9_look_66 ?_
      refine j_aload_n B dX9_look_67 rfl 0 rfl ?_
      refine gf_RX9_53 B rfl (wf_2 hW) (wf_120 hW) dX9_look_68 ?_
      refine j_iconst B dX9_look_71 (v := 1) (by decide) ?_
      refine j_dup2 B dX9_look_72 rfl rfl ?_
      refine j_iald B ((wf_25 hW)) (vp_in_iff.mpr ⟨by decide, by decide⟩) dX9_look_73 ?_
      refine j_iload_n B dX9_look_74 rfl 2 rfl ?_
      refine j_iadd B dX9_look_75 ?_
      refine j_iast B ((wf_25 hW)) (vp_in_iff.mpr ⟨by decide, by decide⟩) dX9_look_76 ?_
      refine j_iload_n B dX9_look_77 rfl 2 rfl ?_
      obtain ⟨e1, e2⟩ := Prod.mk.inj (Option.some.inj h)
      subst e1
      subst e2
      exact j_iret B E rfl dX9_look_78 (Nat.le_refl _) (Nat.le_refl _) ⟨rfl, rfl, rfl, rfl⟩
    · replace h := h_neg c h
      refine j_aload_n B dX9_look_21 rfl 0 rfl ?_
      refine gf_RX9_11 B rfl (wf_2 hW) (wf_100 hW) dX9_look_22 ?_
      refine j_iload_n B dX9_look_25 rfl 3 rfl ?_
      obtain ⟨b2, h⟩ := h_inb h
      refine j_aald B (wf_3 hW) (Or.inr (Or.inr rfl)) (wf_in5 hW b2) (wf_house hW b2) dX9_look_26 ?_
      refine j_astore (L' := [(4, .ref (G.1 + (98 + 5 * x3.toNatClampNeg))), (0, .ref (G.1 + 0)), (1, .int x1), (2, .int x2), (3, .int x3)]) B dX9_look_27 (by decide) rfl ?_
      refine j_iload_n B dX9_look_29 rfl 3 rfl ?_
      refine j_aload B dX9_look_30 0 rfl ?_
      refine j_aload B dX9_look_32 0 rfl ?_
      refine gf_RX9_141 B rfl ((wf_sill hW b2).1) (wf_sill hW b2).2.2.1 dX9_look_34 ?_
      refine j_iload_n B dX9_look_37 rfl 2 rfl ?_
      obtain ⟨r3, hr3, h⟩ := h_bind h
      refine j_cSI (rest := [.ref (G.1 + ((98 + 5 * x3.toNatClampNeg) + 1)), .ref (G.1 + (98 + 5 * x3.toNatClampNeg)), .int x2]) B (tX9_whomOf hr3) jt_RX9_174 wst_X9_whomOf rfl (by decide) (Nat.le_refl _) (Nat.le_refl _) rfl (Nat.le_of_ble_eq_true rfl) dX9_look_38 ?_
      refine j_aload_n B dX9_look_41 rfl 1 rfl ?_
      refine j_iload_n B dX9_look_42 rfl 2 rfl ?_
      obtain ⟨r4, hr4, h⟩ := h_bind h
      refine j_cVI (rest := [.int r3, .ref (G.1 + ((98 + 5 * x3.toNatClampNeg) + 1)), .ref (G.1 + (98 + 5 * x3.toNatClampNeg)), .int x2]) B (tX9_muchOf hW hr4) cls9 (wf_2 hW) jt_RX9_178 wi_X9_muchOf ws_X9_muchOf rfl (by decide) (Nat.le_refl _) (Nat.le_refl _) rfl (Nat.le_of_ble_eq_true rfl) dX9_look_43 ?_
      obtain ⟨r5, hr5, h⟩ := h_bind h
      refine j_cVI (rest := [.int x2]) B (tX7_layOn hW (wf_sill hW b2) ((wf_sill hW b2).2.2.2.2.2) hr5) cls7 ((wf_sill hW b2).1) jt_RX9_219 wi_X7_layOn ws_X7_layOn rfl (by decide) (Nat.le_refl _) (Nat.le_refl _) rfl (Nat.le_of_ble_eq_true rfl) dX9_look_46 ?_
      refine j_iadd B dX9_look_49 ?_
      refine j_istore_n (L' := [(2, .int (x2 + r5.1)), (4, .ref (G.1 + (98 + 5 * x3.toNatClampNeg))), (0, .ref (G.1 + 0)), (1, .int x1), (3, .int x3)]) B dX9_look_50 rfl (by decide) rfl ?_
      refine j_iinc (v := (x3 + 1)) (L' := [(3, .int (x3 + 1)), (2, .int (x2 + r5.1)), (4, .ref (G.1 + (98 + 5 * x3.toNatClampNeg))), (0, .ref (G.1 + 0)), (1, .int x1)]) B dX9_look_51 4 rfl rfl (by decide) rfl ?_
      refine j_goto (tgt := 13) B dX9_look_54 (by decide) ?_
      refine j_locals [3, 4, 1, 0] rfl ?_
      exact ih (x1) ((x2 + r5.1)) ((x3 + 1)) (r5.2)  h
def fX9_look (ns : Nat) (x1 : Int32) (vi0 : VI) : Option (Int32 × VI) := (fX9_isLooking x1).bind fun r1 => if r1 = true then fX9_look_13 ns FU x1 0 0 vi0 else some ((-1), vi0)
theorem tX9_look {G : GT} {sv : SV} {vi0 : VI} {vl0 : VL} {ns : Nat} {x1 : Int32} {r : Int32} {vi' : VI} (hW : WF sv ns) (h : fX9_look ns x1 vi0 = some (r, vi')) : Call G mX9_look 5 0 0 [.ref (G.1 + 0), .int x1] sv vi0 vl0 (QI r sv vi' vl0) := by
  refine j_mk (by decide +kernel) (Nat.le_of_ble_eq_true rfl) (fun Γ B E => ?_)
  show J G Γ 0 0 0 [(0, .ref (G.1 + 0)), (1, .int x1)] [] sv vi0 vl0
  unfold fX9_look at h
  refine j_iload_n B dX9_look_0 rfl 1 rfl ?_
  obtain ⟨r1, hr1, h⟩ := h_bind h
  refine j_cSI (rest := []) B (tX9_isLooking hr1) jt_RX9_171 wst_X9_isLooking rfl (by decide) (Nat.le_refl _) (Nat.le_refl _) rfl (Nat.le_of_ble_eq_true rfl) dX9_look_1 ?_
  refine j_if_ne (tgt := 9) B dX9_look_4 (by decide) (fun c => ?_) (fun c => ?_)
  · replace h := h_pos (b2i_1 c) h
    refine j_iconst B dX9_look_9 (v := 0) (by decide) ?_
    refine j_istore_n (L' := [(2, .int 0), (0, .ref (G.1 + 0)), (1, .int x1)]) B dX9_look_10 rfl (by decide) rfl ?_
    refine j_iconst B dX9_look_11 (v := 0) (by decide) ?_
    refine j_istore_n (L' := [(3, .int 0), (2, .int 0), (0, .ref (G.1 + 0)), (1, .int x1)]) B dX9_look_12 rfl (by decide) rfl ?_
    refine j_locals [2, 3, 1, 0] rfl ?_
    exact tX9_look_13 B E hW FU (x1) (0) (0) (vi0)  h
  · replace h := h_neg (b2i_0 c) h
    refine j_iconst B dX9_look_7 (v := (-1)) (by decide) ?_
    obtain ⟨e1, e2⟩ := Prod.mk.inj (Option.some.inj h)
    subst e1
    subst e2
    exact j_iret B E rfl dX9_look_8 (Nat.le_refl _) (Nat.le_refl _) ⟨rfl, rfl, rfl, rfl⟩
def fX9_blow (ns : Nat) (x1 : Int32) (x2 : Int32) (vi0 : VI) : Option (Int32 × VI) := (fX9_sillAt ns x1 vi0).bind fun r1 => optS r1 (some ((-1), vi0)) fun q2 => (fX9_isWithin x2 99).bind fun r3 => if r3 = true then (fX3_takeFromAbove (q2 + 1) x2 vi0).bind fun r4 => some (r4.1, (j_up r4.2 23 (2 : Int32).toNatClampNeg ((r4.2 23 (2 : Int32).toNatClampNeg) + r4.1))) else some ((-1), vi0)
theorem tX9_blow {G : GT} {sv : SV} {vi0 : VI} {vl0 : VL} {ns : Nat} {x1 : Int32} {x2 : Int32} {r : Int32} {vi' : VI} (hW : WF sv ns) (h : fX9_blow ns x1 x2 vi0 = some (r, vi')) : Call G mX9_blow 3 0 0 [.ref (G.1 + 0), .int x1, .int x2] sv vi0 vl0 (QI r sv vi' vl0) := by
  refine j_mk (by decide +kernel) (Nat.le_of_ble_eq_true rfl) (fun Γ B E => ?_)
  show J G Γ 0 0 0 [(0, .ref (G.1 + 0)), (1, .int x1), (2, .int x2)] [] sv vi0 vl0
  unfold fX9_blow at h
  refine j_aload_n B dX9_blow_0 rfl 0 rfl ?_
  refine j_iload_n B dX9_blow_1 rfl 1 rfl ?_
  obtain ⟨r1, hr1, h⟩ := h_bind h
  refine j_cVN (rest := []) B (tX9_sillAt hW hr1) cls9 (wf_2 hW) jt_RX9_137 wi_X9_sillAt ws_X9_sillAt rfl (by decide) (Nat.le_refl _) (Nat.le_refl _) rfl (Nat.le_of_ble_eq_true rfl) dX9_blow_2 ?_
  rcases r1 with _ | q2
  · replace h := h_none h
    refine j_astore_nN (L' := [(3, .null), (0, .ref (G.1 + 0)), (1, .int x1), (2, .int x2)]) B dX9_blow_5 rfl (by decide) rfl ?_
    refine j_aloadN_n B dX9_blow_6 rfl 0 rfl ?_
    refine j_ifnullN (tgt := 19) B dX9_blow_7 (by decide) ?_
    refine j_iconst B dX9_blow_19 (v := (-1)) (by decide) ?_
    obtain ⟨e1, e2⟩ := Prod.mk.inj (Option.some.inj h)
    subst e1
    subst e2
    exact j_iret B E rfl dX9_blow_20 (Nat.le_refl _) (Nat.le_refl _) ⟨rfl, rfl, rfl, rfl⟩
  · replace h := h_some h
    have is_q2 := sillAt_is hW hr1
    refine j_astore_n (L' := [(3, .ref (G.1 + q2)), (0, .ref (G.1 + 0)), (1, .int x1), (2, .int x2)]) B dX9_blow_5 rfl (by decide) rfl ?_
    refine j_aload_n B dX9_blow_6 rfl 0 rfl ?_
    refine j_ifnull B dX9_blow_7 ?_
    refine j_iload_n B dX9_blow_10 rfl 3 rfl ?_
    refine j_bipush B dX9_blow_11 (v := 99) (by decide) ?_
    obtain ⟨r3, hr3, h⟩ := h_bind h
    refine j_cSI (rest := []) B (tX9_isWithin hr3) jt_RX9_90 wst_X9_isWithin rfl (by decide) (Nat.le_refl _) (Nat.le_refl _) rfl (Nat.le_of_ble_eq_true rfl) dX9_blow_13 ?_
    refine j_if_ne (tgt := 21) B dX9_blow_16 (by decide) (fun c => ?_) (fun c => ?_)
    · replace h := h_pos (b2i_1 c) h
      refine j_aload_n B dX9_blow_21 rfl 0 rfl ?_
      refine gf_RX9_141 B rfl ((is_q2).1) (is_q2).2.2.1 dX9_blow_22 ?_
      refine j_iload_n B dX9_blow_25 rfl 3 rfl ?_
      obtain ⟨r4, hr4, h⟩ := h_bind h
      refine j_cVI (rest := []) B (tX3_takeFromAbove ((is_q2).2.2.2.2.2) hr4) cls3 (((is_q2).2.2.2.2.2).1) jt_RX9_204 wi_X3_takeFromAbove ws_X3_takeFromAbove rfl (by decide) (Nat.le_refl _) (Nat.le_refl _) rfl (Nat.le_of_ble_eq_true rfl) dX9_blow_26 ?_
      refine j_istore (L' := [(4, .int r4.1), (3, .ref (G.1 + q2)), (0, .ref (G.1 + 0)), (1, .int x1), (2, .int x2)]) B dX9_blow_29 (by decide) rfl ?_
      refine j_aload_n B dX9_blow_31 rfl 2 rfl ?_
      refine gf_RX9_53 B rfl (wf_2 hW) (wf_120 hW) dX9_blow_32 ?_
      refine j_iconst B dX9_blow_35 (v := 2) (by decide) ?_
      refine j_dup2 B dX9_blow_36 rfl rfl ?_
      refine j_iald B ((wf_25 hW)) (vp_in_iff.mpr ⟨by decide, by decide⟩) dX9_blow_37 ?_
      refine j_iload B dX9_blow_38 0 rfl ?_
      refine j_iadd B dX9_blow_40 ?_
      refine j_iast B ((wf_25 hW)) (vp_in_iff.mpr ⟨by decide, by decide⟩) dX9_blow_41 ?_
      refine j_iload B dX9_blow_42 0 rfl ?_
      obtain ⟨e1, e2⟩ := Prod.mk.inj (Option.some.inj h)
      subst e1
      subst e2
      exact j_iret B E rfl dX9_blow_44 (Nat.le_refl _) (Nat.le_refl _) ⟨rfl, rfl, rfl, rfl⟩
    · replace h := h_neg (b2i_0 c) h
      refine j_iconst B dX9_blow_19 (v := (-1)) (by decide) ?_
      obtain ⟨e1, e2⟩ := Prod.mk.inj (Option.some.inj h)
      subst e1
      subst e2
      exact j_iret B E rfl dX9_blow_20 (Nat.le_refl _) (Nat.le_refl _) ⟨rfl, rfl, rfl, rfl⟩
def fX9_sweep (ns : Nat) (x1 : Int32) (vi0 : VI) : Option (Int32 × VI) := (fX9_sillAt ns x1 vi0).bind fun r1 => optS r1 (some ((-1), vi0)) fun q2 => (fX3_allThick (q2 + 1) vi0).bind fun r3 => some (r3, (j_up (j_up (j_up vi0 (q2 + 1) 2 0) 23 (3 : Int32).toNatClampNeg (((j_up vi0 (q2 + 1) 2 0) 23 (3 : Int32).toNatClampNeg) + r3)) 23 (4 : Int32).toNatClampNeg (((j_up (j_up vi0 (q2 + 1) 2 0) 23 (3 : Int32).toNatClampNeg (((j_up vi0 (q2 + 1) 2 0) 23 (3 : Int32).toNatClampNeg) + r3)) 23 (4 : Int32).toNatClampNeg) + 1)))
theorem tX9_sweep {G : GT} {sv : SV} {vi0 : VI} {vl0 : VL} {ns : Nat} {x1 : Int32} {r : Int32} {vi' : VI} (hW : WF sv ns) (h : fX9_sweep ns x1 vi0 = some (r, vi')) : Call G mX9_sweep 2 0 0 [.ref (G.1 + 0), .int x1] sv vi0 vl0 (QI r sv vi' vl0) := by
  refine j_mk (by decide +kernel) (Nat.le_of_ble_eq_true rfl) (fun Γ B E => ?_)
  show J G Γ 0 0 0 [(0, .ref (G.1 + 0)), (1, .int x1)] [] sv vi0 vl0
  unfold fX9_sweep at h
  refine j_aload_n B dX9_sweep_0 rfl 0 rfl ?_
  refine j_iload_n B dX9_sweep_1 rfl 1 rfl ?_
  obtain ⟨r1, hr1, h⟩ := h_bind h
  refine j_cVN (rest := []) B (tX9_sillAt hW hr1) cls9 (wf_2 hW) jt_RX9_137 wi_X9_sillAt ws_X9_sillAt rfl (by decide) (Nat.le_refl _) (Nat.le_refl _) rfl (Nat.le_of_ble_eq_true rfl) dX9_sweep_2 ?_
  rcases r1 with _ | q2
  · replace h := h_none h
    refine j_astore_nN (L' := [(2, .null), (0, .ref (G.1 + 0)), (1, .int x1)]) B dX9_sweep_5 rfl (by decide) rfl ?_
    refine j_aloadN_n B dX9_sweep_6 rfl 0 rfl ?_
    refine j_ifnonnullN B dX9_sweep_7 ?_
    refine j_iconst B dX9_sweep_10 (v := (-1)) (by decide) ?_
    obtain ⟨e1, e2⟩ := Prod.mk.inj (Option.some.inj h)
    subst e1
    subst e2
    exact j_iret B E rfl dX9_sweep_11 (Nat.le_refl _) (Nat.le_refl _) ⟨rfl, rfl, rfl, rfl⟩
  · replace h := h_some h
    have is_q2 := sillAt_is hW hr1
    refine j_astore_n (L' := [(2, .ref (G.1 + q2)), (0, .ref (G.1 + 0)), (1, .int x1)]) B dX9_sweep_5 rfl (by decide) rfl ?_
    refine j_aload_n B dX9_sweep_6 rfl 0 rfl ?_
    refine j_ifnonnull (tgt := 12) B dX9_sweep_7 (by decide) ?_
    refine j_aload_n B dX9_sweep_12 rfl 0 rfl ?_
    refine gf_RX9_141 B rfl ((is_q2).1) (is_q2).2.2.1 dX9_sweep_13 ?_
    obtain ⟨r3, hr3, h⟩ := h_bind h
    refine j_cVI (rest := []) B (tX3_allThick ((is_q2).2.2.2.2.2) hr3) cls3 (((is_q2).2.2.2.2.2).1) jt_RX9_147 wi_X3_allThick ws_X3_allThick rfl (by decide) (Nat.le_refl _) (Nat.le_refl _) rfl (Nat.le_of_ble_eq_true rfl) dX9_sweep_16 ?_
    refine j_istore_n (L' := [(3, .int r3), (2, .ref (G.1 + q2)), (0, .ref (G.1 + 0)), (1, .int x1)]) B dX9_sweep_19 rfl (by decide) rfl ?_
    refine j_aload_n B dX9_sweep_20 rfl 1 rfl ?_
    refine gf_RX9_141 B rfl ((is_q2).1) (is_q2).2.2.1 dX9_sweep_21 ?_
    refine j_iconst B dX9_sweep_24 (v := 0) (by decide) ?_
    refine pf_RX9_144 B rfl (((is_q2).2.2.2.2.2).1) dX9_sweep_25 ?_
    refine j_aload_n B dX9_sweep_28 rfl 2 rfl ?_
    refine gf_RX9_53 B rfl (wf_2 hW) (wf_120 hW) dX9_sweep_29 ?_
    refine j_iconst B dX9_sweep_32 (v := 3) (by decide) ?_
    refine j_dup2 B dX9_sweep_33 rfl rfl ?_
    refine j_iald B ((wf_25 hW)) (vp_in_iff.mpr ⟨by decide, by decide⟩) dX9_sweep_34 ?_
    refine j_iload_n B dX9_sweep_35 rfl 0 rfl ?_
    refine j_iadd B dX9_sweep_36 ?_
    refine j_iast B ((wf_25 hW)) (vp_in_iff.mpr ⟨by decide, by decide⟩) dX9_sweep_37 ?_
    refine j_aload_n B dX9_sweep_38 rfl 2 rfl ?_
    refine gf_RX9_53 B rfl (wf_2 hW) (wf_120 hW) dX9_sweep_39 ?_
    refine j_iconst B dX9_sweep_42 (v := 4) (by decide) ?_
    refine j_dup2 B dX9_sweep_43 rfl rfl ?_
    refine j_iald B ((wf_25 hW)) (vp_in_iff.mpr ⟨by decide, by decide⟩) dX9_sweep_44 ?_
    refine j_iconst B dX9_sweep_45 (v := 1) (by decide) ?_
    refine j_iadd B dX9_sweep_46 ?_
    refine j_iast B ((wf_25 hW)) (vp_in_iff.mpr ⟨by decide, by decide⟩) dX9_sweep_47 ?_
    refine j_iload_n B dX9_sweep_48 rfl 0 rfl ?_
    obtain ⟨e1, e2⟩ := Prod.mk.inj (Option.some.inj h)
    subst e1
    subst e2
    exact j_iret B E rfl dX9_sweep_49 (Nat.le_refl _) (Nat.le_refl _) ⟨rfl, rfl, rfl, rfl⟩
def fX9_led (x1 : Int32) (vi0 : VI) : Option (Int32) := (fX9_isWithin x1 4).bind fun r1 => if r1 = true then if inb x1 5 = true then some ((vi0 23 x1.toNatClampNeg)) else none else some ((-1))
theorem tX9_led {G : GT} {sv : SV} {vi0 : VI} {vl0 : VL} {ns : Nat} {x1 : Int32} {r : Int32} (hW : WF sv ns) (h : fX9_led x1 vi0 = some (r)) : Call G mX9_led 1 0 0 [.ref (G.1 + 0), .int x1] sv vi0 vl0 (QI r sv vi0 vl0) := by
  refine j_mk (by decide +kernel) (Nat.le_of_ble_eq_true rfl) (fun Γ B E => ?_)
  show J G Γ 0 0 0 [(0, .ref (G.1 + 0)), (1, .int x1)] [] sv vi0 vl0
  unfold fX9_led at h
  refine j_iload_n B dX9_led_0 rfl 1 rfl ?_
  refine j_iconst B dX9_led_1 (v := 4) (by decide) ?_
  obtain ⟨r1, hr1, h⟩ := h_bind h
  refine j_cSI (rest := []) B (tX9_isWithin hr1) jt_RX9_90 wst_X9_isWithin rfl (by decide) (Nat.le_refl _) (Nat.le_refl _) rfl (Nat.le_of_ble_eq_true rfl) dX9_led_2 ?_
  refine j_if_eq (tgt := 17) B dX9_led_5 (by decide) (fun c => ?_) (fun c => ?_)
  · replace h := h_neg (b2i_0 c) h
    refine j_iconst B dX9_led_17 (v := (-1)) (by decide) ?_
    have e1 := Option.some.inj h
    subst e1
    exact j_iret B E rfl dX9_led_18 (Nat.le_refl _) (Nat.le_refl _) ⟨rfl, rfl, rfl, rfl⟩
  · replace h := h_pos (b2i_1 c) h
    refine j_aload_n B dX9_led_8 rfl 0 rfl ?_
    refine gf_RX9_53 B rfl (wf_2 hW) (wf_120 hW) dX9_led_9 ?_
    refine j_iload_n B dX9_led_12 rfl 1 rfl ?_
    obtain ⟨b2, h⟩ := h_inb h
    refine j_iald B ((wf_25 hW)) b2 dX9_led_13 ?_
    refine j_goto (tgt := 18) B dX9_led_14 (by decide) ?_
    have e1 := Option.some.inj h
    subst e1
    exact j_iret B E rfl dX9_led_18 (Nat.le_refl _) (Nat.le_refl _) ⟨rfl, rfl, rfl, rfl⟩
def fX9_image_2 (ns : Nat) : Nat → Int32 → VI → Option (Int32 × VI)
  | 0, _, _ => none
  | F + 1, x1, vi => if (vi 0 1) ≤ x1 then if cpok 0 0 5 5 5 = true then some (((j_up (j_row vi 26 (va_cpy (vi 23) (vi 26) (0 : Int32).toNatClampNeg (0 : Int32).toNatClampNeg (5 : Int32).toNatClampNeg)) 24 2 1) 23 (0 : Int32).toNatClampNeg), (j_up (j_row vi 26 (va_cpy (vi 23) (vi 26) (0 : Int32).toNatClampNeg (0 : Int32).toNatClampNeg (5 : Int32).toNatClampNeg)) 24 2 1)) else none else if inb x1 5 = true then if inb x1 ns = true then (fX3_become (27 + 3 * x1.toNatClampNeg) ((98 + 5 * x1.toNatClampNeg) + 1) vi).bind fun r4 => fX9_image_2 ns F (x1 + 1) r4 else none else none
theorem tX9_image_2 {G : GT} {sv : SV} {vl0 : VL} {ns : Nat} {Γ : CT} {r : Int32} {vi' : VI} (B : Base G Γ mX9_image 3 0 0) (E : Ends G Γ 0 0 (QI r sv vi' vl0)) (hW : WF sv ns) : ∀ (F : Nat) (x1 : Int32) (vi : VI), fX9_image_2 ns F x1 vi = some (r, vi') → J G Γ 0 0 2 [(0, .ref (G.1 + 0)), (1, .int x1)] [] sv vi vl0 := by
  intro F
  induction F with
  | zero =>
    intro x1 vi  h
    cases (show (none : Option (Int32 × VI)) = some (r, vi') from h)
  | succ F ih =>
    intro x1 vi  h
    rw [fX9_image_2] at h
    refine j_iload_n B dX9_image_2 rfl 1 rfl ?_
    refine j_aload_n B dX9_image_3 rfl 0 rfl ?_
    refine gf_RX9_94 B rfl (wf_2 hW) dX9_image_4 ?_
    refine j_icmp_ge (tgt := 37) B dX9_image_7 (by decide) (fun c => ?_) (fun c => ?_)
    · replace h := h_pos c h
      refine j_aload_n B dX9_image_37 rfl 0 rfl ?_
      refine gf_RX9_53 B rfl (wf_2 hW) (wf_120 hW) dX9_image_38 ?_
      refine j_iconst B dX9_image_41 (v := 0) (by decide) ?_
      refine j_aload_n B dX9_image_42 rfl 0 rfl ?_
      refine gf_RX9_59 B rfl (wf_2 hW) (wf_121 hW) dX9_image_43 ?_
      refine gf_RX9_280 B rfl (wf_26 hW) (wf_123 hW) dX9_image_46 ?_
      refine j_iconst B dX9_image_49 (v := 0) (by decide) ?_
      refine j_iconst B dX9_image_50 (v := 5) (by decide) ?_
      obtain ⟨b1, h⟩ := h_cp h
      refine j_copyi B ((wf_25 hW)) ((wf_28 hW)) wl_RX9_281 wn_ac wst_ac wini_sys b1.1 b1.2.1 b1.2.2.1 b1.2.2.2.1 b1.2.2.2.2 (by decide) (Nat.le_of_ble_eq_true rfl) dX9_image_51 ?_
      refine j_aload_n B dX9_image_54 rfl 0 rfl ?_
      refine gf_RX9_59 B rfl (wf_2 hW) (wf_121 hW) dX9_image_55 ?_
      refine j_iconst B dX9_image_58 (v := 1) (by decide) ?_
      refine pf_RX9_287 B rfl (wf_26 hW) (Or.inr rfl) dX9_image_59 ?_
      refine j_aload_n B dX9_image_62 rfl 0 rfl ?_
      refine gf_RX9_53 B rfl (wf_2 hW) (wf_120 hW) dX9_image_63 ?_
      refine j_iconst B dX9_image_66 (v := 0) (by decide) ?_
      refine j_iald B ((wf_25 hW)) (vp_in_iff.mpr ⟨by decide, by decide⟩) dX9_image_67 ?_
      obtain ⟨e1, e2⟩ := Prod.mk.inj (Option.some.inj h)
      subst e1
      subst e2
      exact j_iret B E rfl dX9_image_68 (Nat.le_refl _) (Nat.le_refl _) ⟨rfl, rfl, rfl, rfl⟩
    · replace h := h_neg c h
      refine j_aload_n B dX9_image_10 rfl 0 rfl ?_
      refine gf_RX9_59 B rfl (wf_2 hW) (wf_121 hW) dX9_image_11 ?_
      refine gf_RX9_277 B rfl (wf_26 hW) (wf_122 hW) dX9_image_14 ?_
      refine j_iload_n B dX9_image_17 rfl 1 rfl ?_
      obtain ⟨b2, h⟩ := h_inb h
      refine j_aald B (wf_27 hW) (Or.inl rfl) b2 (wf_idv hW b2) dX9_image_18 ?_
      refine j_aload_n B dX9_image_19 rfl 0 rfl ?_
      refine gf_RX9_11 B rfl (wf_2 hW) (wf_100 hW) dX9_image_20 ?_
      refine j_iload_n B dX9_image_23 rfl 1 rfl ?_
      obtain ⟨b3, h⟩ := h_inb h
      refine j_aald B (wf_3 hW) (Or.inr (Or.inr rfl)) (wf_in5 hW b3) (wf_house hW b3) dX9_image_24 ?_
      refine gf_RX9_141 B rfl ((wf_sill hW b3).1) (wf_sill hW b3).2.2.1 dX9_image_25 ?_
      obtain ⟨r4, hr4, h⟩ := h_bind h
      refine j_cVV (rest := []) B (tX3_become (wf_idust hW b2) ((wf_sill hW b3).2.2.2.2.2) hr4) cls3 ((wf_idust hW b2).1) jt_RX9_201 wi_X3_become ws_X3_become rfl (by decide) (Nat.le_refl _) (Nat.le_refl _) rfl (Nat.le_of_ble_eq_true rfl) dX9_image_28 ?_
      refine j_iinc (v := (x1 + 1)) (L' := [(1, .int (x1 + 1)), (0, .ref (G.1 + 0))]) B dX9_image_31 1 rfl rfl (by decide) rfl ?_
      refine j_goto (tgt := 2) B dX9_image_34 (by decide) ?_
      refine j_locals [1, 0] rfl ?_
      exact ih ((x1 + 1)) (r4)  h
def fX9_image (ns : Nat) (vi0 : VI) : Option (Int32 × VI) := fX9_image_2 ns FU 0 vi0
theorem tX9_image {G : GT} {sv : SV} {vi0 : VI} {vl0 : VL} {ns : Nat} {r : Int32} {vi' : VI} (hW : WF sv ns) (h : fX9_image ns vi0 = some (r, vi')) : Call G mX9_image 3 0 0 [.ref (G.1 + 0)] sv vi0 vl0 (QI r sv vi' vl0) := by
  refine j_mk (by decide +kernel) (Nat.le_of_ble_eq_true rfl) (fun Γ B E => ?_)
  show J G Γ 0 0 0 [(0, .ref (G.1 + 0))] [] sv vi0 vl0
  unfold fX9_image at h
  refine j_iconst B dX9_image_0 (v := 0) (by decide) ?_
  refine j_istore_n (L' := [(1, .int 0), (0, .ref (G.1 + 0))]) B dX9_image_1 rfl (by decide) rfl ?_
  refine j_locals [1, 0] rfl ?_
  exact tX9_image_2 B E hW FU (0) (vi0)  h
def fX9_back_15 (ns : Nat) : Nat → Int32 → VI → Option (Int32 × VI)
  | 0, _, _ => none
  | F + 1, x1, vi => if (vi 0 1) ≤ x1 then if cpok 0 0 5 5 5 = true then some (((j_row vi 23 (va_cpy (vi 26) (vi 23) (0 : Int32).toNatClampNeg (0 : Int32).toNatClampNeg (5 : Int32).toNatClampNeg)) 23 (0 : Int32).toNatClampNeg), (j_row vi 23 (va_cpy (vi 26) (vi 23) (0 : Int32).toNatClampNeg (0 : Int32).toNatClampNeg (5 : Int32).toNatClampNeg))) else none else if inb x1 ns = true then if inb x1 5 = true then (fX3_become ((98 + 5 * x1.toNatClampNeg) + 1) (27 + 3 * x1.toNatClampNeg) vi).bind fun r4 => fX9_back_15 ns F (x1 + 1) r4 else none else none
theorem tX9_back_15 {G : GT} {sv : SV} {vl0 : VL} {ns : Nat} {Γ : CT} {r : Int32} {vi' : VI} (B : Base G Γ mX9_back 3 0 0) (E : Ends G Γ 0 0 (QI r sv vi' vl0)) (hW : WF sv ns) : ∀ (F : Nat) (x1 : Int32) (vi : VI), fX9_back_15 ns F x1 vi = some (r, vi') → J G Γ 0 0 15 [(0, .ref (G.1 + 0)), (1, .int x1)] [] sv vi vl0 := by
  intro F
  induction F with
  | zero =>
    intro x1 vi  h
    cases (show (none : Option (Int32 × VI)) = some (r, vi') from h)
  | succ F ih =>
    intro x1 vi  h
    rw [fX9_back_15] at h
    refine j_iload_n B dX9_back_15 rfl 1 rfl ?_
    refine j_aload_n B dX9_back_16 rfl 0 rfl ?_
    refine gf_RX9_94 B rfl (wf_2 hW) dX9_back_17 ?_
    refine j_icmp_ge (tgt := 50) B dX9_back_20 (by decide) (fun c => ?_) (fun c => ?_)
    · replace h := h_pos c h
      refine j_aload_n B dX9_back_50 rfl 0 rfl ?_
      refine gf_RX9_59 B rfl (wf_2 hW) (wf_121 hW) dX9_back_51 ?_
      refine gf_RX9_280 B rfl (wf_26 hW) (wf_123 hW) dX9_back_54 ?_
      refine j_iconst B dX9_back_57 (v := 0) (by decide) ?_
      refine j_aload_n B dX9_back_58 rfl 0 rfl ?_
      refine gf_RX9_53 B rfl (wf_2 hW) (wf_120 hW) dX9_back_59 ?_
      refine j_iconst B dX9_back_62 (v := 0) (by decide) ?_
      refine j_iconst B dX9_back_63 (v := 5) (by decide) ?_
      obtain ⟨b1, h⟩ := h_cp h
      refine j_copyi B ((wf_28 hW)) ((wf_25 hW)) wl_RX9_281 wn_ac wst_ac wini_sys b1.1 b1.2.1 b1.2.2.1 b1.2.2.2.1 b1.2.2.2.2 (by decide) (Nat.le_of_ble_eq_true rfl) dX9_back_64 ?_
      refine j_aload_n B dX9_back_67 rfl 0 rfl ?_
      refine gf_RX9_53 B rfl (wf_2 hW) (wf_120 hW) dX9_back_68 ?_
      refine j_iconst B dX9_back_71 (v := 0) (by decide) ?_
      refine j_iald B ((wf_25 hW)) (vp_in_iff.mpr ⟨by decide, by decide⟩) dX9_back_72 ?_
      obtain ⟨e1, e2⟩ := Prod.mk.inj (Option.some.inj h)
      subst e1
      subst e2
      exact j_iret B E rfl dX9_back_73 (Nat.le_refl _) (Nat.le_refl _) ⟨rfl, rfl, rfl, rfl⟩
    · replace h := h_neg c h
      refine j_aload_n B dX9_back_23 rfl 0 rfl ?_
      refine gf_RX9_11 B rfl (wf_2 hW) (wf_100 hW) dX9_back_24 ?_
      refine j_iload_n B dX9_back_27 rfl 1 rfl ?_
      obtain ⟨b2, h⟩ := h_inb h
      refine j_aald B (wf_3 hW) (Or.inr (Or.inr rfl)) (wf_in5 hW b2) (wf_house hW b2) dX9_back_28 ?_
      refine gf_RX9_141 B rfl ((wf_sill hW b2).1) (wf_sill hW b2).2.2.1 dX9_back_29 ?_
      refine j_aload_n B dX9_back_32 rfl 0 rfl ?_
      refine gf_RX9_59 B rfl (wf_2 hW) (wf_121 hW) dX9_back_33 ?_
      refine gf_RX9_277 B rfl (wf_26 hW) (wf_122 hW) dX9_back_36 ?_
      refine j_iload_n B dX9_back_39 rfl 1 rfl ?_
      obtain ⟨b3, h⟩ := h_inb h
      refine j_aald B (wf_27 hW) (Or.inl rfl) b3 (wf_idv hW b3) dX9_back_40 ?_
      obtain ⟨r4, hr4, h⟩ := h_bind h
      refine j_cVV (rest := []) B (tX3_become ((wf_sill hW b2).2.2.2.2.2) (wf_idust hW b3) hr4) cls3 (((wf_sill hW b2).2.2.2.2.2).1) jt_RX9_201 wi_X3_become ws_X3_become rfl (by decide) (Nat.le_refl _) (Nat.le_refl _) rfl (Nat.le_of_ble_eq_true rfl) dX9_back_41 ?_
      refine j_iinc (v := (x1 + 1)) (L' := [(1, .int (x1 + 1)), (0, .ref (G.1 + 0))]) B dX9_back_44 1 rfl rfl (by decide) rfl ?_
      refine j_goto (tgt := 15) B dX9_back_47 (by decide) ?_
      refine j_locals [1, 0] rfl ?_
      exact ih ((x1 + 1)) (r4)  h
def fX9_back (ns : Nat) (vi0 : VI) : Option (Int32 × VI) := if (vi0 24 2) = 0 then some ((-5), vi0) else fX9_back_15 ns FU 0 vi0
theorem tX9_back {G : GT} {sv : SV} {vi0 : VI} {vl0 : VL} {ns : Nat} {r : Int32} {vi' : VI} (hW : WF sv ns) (h : fX9_back ns vi0 = some (r, vi')) : Call G mX9_back 3 0 0 [.ref (G.1 + 0)] sv vi0 vl0 (QI r sv vi' vl0) := by
  refine j_mk (by decide +kernel) (Nat.le_of_ble_eq_true rfl) (fun Γ B E => ?_)
  show J G Γ 0 0 0 [(0, .ref (G.1 + 0))] [] sv vi0 vl0
  unfold fX9_back at h
  refine j_aload_n B dX9_back_0 rfl 0 rfl ?_
  refine gf_RX9_59 B rfl (wf_2 hW) (wf_121 hW) dX9_back_1 ?_
  refine gf_RX9_287 B rfl (wf_26 hW) dX9_back_4 ?_
  refine j_if_ne (tgt := 13) B dX9_back_7 (by decide) (fun c => ?_) (fun c => ?_)
  · replace h := h_neg c h
    refine j_iconst B dX9_back_13 (v := 0) (by decide) ?_
    refine j_istore_n (L' := [(1, .int 0), (0, .ref (G.1 + 0))]) B dX9_back_14 rfl (by decide) rfl ?_
    refine j_locals [1, 0] rfl ?_
    exact tX9_back_15 B E hW FU (0) (vi0)  h
  · replace h := h_pos c h
    refine j_bipush B dX9_back_10 (v := (-5)) (by decide) ?_
    obtain ⟨e1, e2⟩ := Prod.mk.inj (Option.some.inj h)
    subst e1
    subst e2
    exact j_iret B E rfl dX9_back_12 (Nat.le_refl _) (Nat.le_refl _) ⟨rfl, rfl, rfl, rfl⟩
def fX9_undo (ns : Nat) (vi0 : VI) : Option (Int32 × VI) := if ((vi0 42 4) - 1) < 0 then some ((-5), vi0) else if ((vi0 42 4) - 1) < 40 then if inb ((vi0 42 4) - 1) 40 = true then if inb ((vi0 42 4) - 1) 40 = true then if inb ((vi0 42 4) - 1) 40 = true then (fX9_setNumber ns (vi0 43 ((vi0 42 4) - 1).toNatClampNeg) (vi0 44 ((vi0 42 4) - 1).toNatClampNeg) (vi0 45 ((vi0 42 4) - 1).toNatClampNeg) vi0).bind fun r4 => some (((vi0 42 4) - 1), (j_up r4 42 4 ((vi0 42 4) - 1))) else none else none else none else some ((-5), vi0)
theorem tX9_undo {G : GT} {sv : SV} {vi0 : VI} {vl0 : VL} {ns : Nat} {r : Int32} {vi' : VI} (hW : WF sv ns) (h : fX9_undo ns vi0 = some (r, vi')) : Call G mX9_undo 4 0 0 [.ref (G.1 + 0)] sv vi0 vl0 (QI r sv vi' vl0) := by
  refine j_mk (by decide +kernel) (Nat.le_of_ble_eq_true rfl) (fun Γ B E => ?_)
  show J G Γ 0 0 0 [(0, .ref (G.1 + 0))] [] sv vi0 vl0
  unfold fX9_undo at h
  refine j_aload_n B dX9_undo_0 rfl 0 rfl ?_
  refine gf_RX9_66 B rfl (wf_2 hW) (wf_141 hW) dX9_undo_1 ?_
  refine gf_RX9_291 B rfl (wf_44 hW) dX9_undo_4 ?_
  refine j_iconst B dX9_undo_7 (v := 1) (by decide) ?_
  refine j_isub B dX9_undo_8 ?_
  refine j_istore_n (L' := [(1, .int ((vi0 42 4) - 1)), (0, .ref (G.1 + 0))]) B dX9_undo_9 rfl (by decide) rfl ?_
  refine j_iload_n B dX9_undo_10 rfl 0 rfl ?_
  refine j_if_lt (tgt := 20) B dX9_undo_11 (by decide) (fun c => ?_) (fun c => ?_)
  · replace h := h_pos c h
    refine j_bipush B dX9_undo_20 (v := (-5)) (by decide) ?_
    obtain ⟨e1, e2⟩ := Prod.mk.inj (Option.some.inj h)
    subst e1
    subst e2
    exact j_iret B E rfl dX9_undo_22 (Nat.le_refl _) (Nat.le_refl _) ⟨rfl, rfl, rfl, rfl⟩
  · replace h := h_neg c h
    refine j_iload_n B dX9_undo_14 rfl 0 rfl ?_
    refine j_bipush B dX9_undo_15 (v := 40) (by decide) ?_
    refine j_icmp_lt (tgt := 23) B dX9_undo_17 (by decide) (fun c => ?_) (fun c => ?_)
    · replace h := h_pos c h
      refine j_aload_n B dX9_undo_23 rfl 1 rfl ?_
      refine j_aload_n B dX9_undo_24 rfl 1 rfl ?_
      refine gf_RX9_66 B rfl (wf_2 hW) (wf_141 hW) dX9_undo_25 ?_
      refine gf_RX9_294 B rfl (wf_44 hW) (wf_142 hW) dX9_undo_28 ?_
      refine j_iload_n B dX9_undo_31 rfl 0 rfl ?_
      obtain ⟨b1, h⟩ := h_inb h
      refine j_iald B ((wf_45 hW)) b1 dX9_undo_32 ?_
      refine j_aload_n B dX9_undo_33 rfl 1 rfl ?_
      refine gf_RX9_66 B rfl (wf_2 hW) (wf_141 hW) dX9_undo_34 ?_
      refine gf_RX9_297 B rfl (wf_44 hW) (wf_143 hW) dX9_undo_37 ?_
      refine j_iload_n B dX9_undo_40 rfl 0 rfl ?_
      obtain ⟨b2, h⟩ := h_inb h
      refine j_iald B ((wf_46 hW)) b2 dX9_undo_41 ?_
      refine j_aload_n B dX9_undo_42 rfl 1 rfl ?_
      refine gf_RX9_66 B rfl (wf_2 hW) (wf_141 hW) dX9_undo_43 ?_
      refine gf_RX9_300 B rfl (wf_44 hW) (wf_144 hW) dX9_undo_46 ?_
      refine j_iload_n B dX9_undo_49 rfl 0 rfl ?_
      obtain ⟨b3, h⟩ := h_inb h
      refine j_iald B ((wf_47 hW)) b3 dX9_undo_50 ?_
      obtain ⟨r4, hr4, h⟩ := h_bind h
      refine j_cVV (rest := []) B (tX9_setNumber hW hr4) cls9 (wf_2 hW) jt_RX9_133 wi_X9_setNumber ws_X9_setNumber rfl (by decide) (Nat.le_refl _) (Nat.le_refl _) rfl (Nat.le_of_ble_eq_true rfl) dX9_undo_51 ?_
      refine j_aload_n B dX9_undo_54 rfl 1 rfl ?_
      refine gf_RX9_66 B rfl (wf_2 hW) (wf_141 hW) dX9_undo_55 ?_
      refine j_iload_n B dX9_undo_58 rfl 0 rfl ?_
      refine pf_RX9_291 B rfl (wf_44 hW) dX9_undo_59 ?_
      refine j_iload_n B dX9_undo_62 rfl 0 rfl ?_
      obtain ⟨e1, e2⟩ := Prod.mk.inj (Option.some.inj h)
      subst e1
      subst e2
      exact j_iret B E rfl dX9_undo_63 (Nat.le_refl _) (Nat.le_refl _) ⟨rfl, rfl, rfl, rfl⟩
    · replace h := h_neg c h
      refine j_bipush B dX9_undo_20 (v := (-5)) (by decide) ?_
      obtain ⟨e1, e2⟩ := Prod.mk.inj (Option.some.inj h)
      subst e1
      subst e2
      exact j_iret B E rfl dX9_undo_22 (Nat.le_refl _) (Nat.le_refl _) ⟨rfl, rfl, rfl, rfl⟩
def fX9_redo (ns : Nat) (vi0 : VI) : Option (Int32 × VI) := if (vi0 42 4) < 0 then some ((-5), vi0) else if (vi0 42 5) ≤ (vi0 42 4) then some ((-5), vi0) else if (vi0 42 4) < 40 then if inb (vi0 42 4) 40 = true then if inb (vi0 42 4) 40 = true then if inb (vi0 42 4) 40 = true then (fX9_setNumber ns (vi0 43 (vi0 42 4).toNatClampNeg) (vi0 44 (vi0 42 4).toNatClampNeg) (vi0 46 (vi0 42 4).toNatClampNeg) vi0).bind fun r4 => some ((((j_up r4 42 4 ((vi0 42 4) + 1)) 42 5) - ((j_up r4 42 4 ((vi0 42 4) + 1)) 42 4)), (j_up r4 42 4 ((vi0 42 4) + 1))) else none else none else none else some ((-5), vi0)
theorem tX9_redo {G : GT} {sv : SV} {vi0 : VI} {vl0 : VL} {ns : Nat} {r : Int32} {vi' : VI} (hW : WF sv ns) (h : fX9_redo ns vi0 = some (r, vi')) : Call G mX9_redo 4 0 0 [.ref (G.1 + 0)] sv vi0 vl0 (QI r sv vi' vl0) := by
  refine j_mk (by decide +kernel) (Nat.le_of_ble_eq_true rfl) (fun Γ B E => ?_)
  show J G Γ 0 0 0 [(0, .ref (G.1 + 0))] [] sv vi0 vl0
  unfold fX9_redo at h
  refine j_aload_n B dX9_redo_0 rfl 0 rfl ?_
  refine gf_RX9_66 B rfl (wf_2 hW) (wf_141 hW) dX9_redo_1 ?_
  refine gf_RX9_291 B rfl (wf_44 hW) dX9_redo_4 ?_
  refine j_istore_n (L' := [(1, .int (vi0 42 4)), (0, .ref (G.1 + 0))]) B dX9_redo_7 rfl (by decide) rfl ?_
  refine j_iload_n B dX9_redo_8 rfl 0 rfl ?_
  refine j_if_lt (tgt := 29) B dX9_redo_9 (by decide) (fun c => ?_) (fun c => ?_)
  · replace h := h_pos c h
    refine j_bipush B dX9_redo_29 (v := (-5)) (by decide) ?_
    obtain ⟨e1, e2⟩ := Prod.mk.inj (Option.some.inj h)
    subst e1
    subst e2
    exact j_iret B E rfl dX9_redo_31 (Nat.le_refl _) (Nat.le_refl _) ⟨rfl, rfl, rfl, rfl⟩
  · replace h := h_neg c h
    refine j_iload_n B dX9_redo_12 rfl 0 rfl ?_
    refine j_aload_n B dX9_redo_13 rfl 1 rfl ?_
    refine gf_RX9_66 B rfl (wf_2 hW) (wf_141 hW) dX9_redo_14 ?_
    refine gf_RX9_303 B rfl (wf_44 hW) dX9_redo_17 ?_
    refine j_icmp_ge (tgt := 29) B dX9_redo_20 (by decide) (fun c => ?_) (fun c => ?_)
    · replace h := h_pos c h
      refine j_bipush B dX9_redo_29 (v := (-5)) (by decide) ?_
      obtain ⟨e1, e2⟩ := Prod.mk.inj (Option.some.inj h)
      subst e1
      subst e2
      exact j_iret B E rfl dX9_redo_31 (Nat.le_refl _) (Nat.le_refl _) ⟨rfl, rfl, rfl, rfl⟩
    · replace h := h_neg c h
      refine j_iload_n B dX9_redo_23 rfl 0 rfl ?_
      refine j_bipush B dX9_redo_24 (v := 40) (by decide) ?_
      refine j_icmp_lt (tgt := 32) B dX9_redo_26 (by decide) (fun c => ?_) (fun c => ?_)
      · replace h := h_pos c h
        refine j_aload_n B dX9_redo_32 rfl 1 rfl ?_
        refine j_aload_n B dX9_redo_33 rfl 1 rfl ?_
        refine gf_RX9_66 B rfl (wf_2 hW) (wf_141 hW) dX9_redo_34 ?_
        refine gf_RX9_294 B rfl (wf_44 hW) (wf_142 hW) dX9_redo_37 ?_
        refine j_iload_n B dX9_redo_40 rfl 0 rfl ?_
        obtain ⟨b1, h⟩ := h_inb h
        refine j_iald B ((wf_45 hW)) b1 dX9_redo_41 ?_
        refine j_aload_n B dX9_redo_42 rfl 1 rfl ?_
        refine gf_RX9_66 B rfl (wf_2 hW) (wf_141 hW) dX9_redo_43 ?_
        refine gf_RX9_297 B rfl (wf_44 hW) (wf_143 hW) dX9_redo_46 ?_
        refine j_iload_n B dX9_redo_49 rfl 0 rfl ?_
        obtain ⟨b2, h⟩ := h_inb h
        refine j_iald B ((wf_46 hW)) b2 dX9_redo_50 ?_
        refine j_aload_n B dX9_redo_51 rfl 1 rfl ?_
        refine gf_RX9_66 B rfl (wf_2 hW) (wf_141 hW) dX9_redo_52 ?_
        refine gf_RX9_306 B rfl (wf_44 hW) (wf_145 hW) dX9_redo_55 ?_
        refine j_iload_n B dX9_redo_58 rfl 0 rfl ?_
        obtain ⟨b3, h⟩ := h_inb h
        refine j_iald B ((wf_48 hW)) b3 dX9_redo_59 ?_
        obtain ⟨r4, hr4, h⟩ := h_bind h
        refine j_cVV (rest := []) B (tX9_setNumber hW hr4) cls9 (wf_2 hW) jt_RX9_133 wi_X9_setNumber ws_X9_setNumber rfl (by decide) (Nat.le_refl _) (Nat.le_refl _) rfl (Nat.le_of_ble_eq_true rfl) dX9_redo_60 ?_
        refine j_aload_n B dX9_redo_63 rfl 1 rfl ?_
        refine gf_RX9_66 B rfl (wf_2 hW) (wf_141 hW) dX9_redo_64 ?_
        refine j_iload_n B dX9_redo_67 rfl 0 rfl ?_
        refine j_iconst B dX9_redo_68 (v := 1) (by decide) ?_
        refine j_iadd B dX9_redo_69 ?_
        refine pf_RX9_291 B rfl (wf_44 hW) dX9_redo_70 ?_
        refine j_aload_n B dX9_redo_73 rfl 1 rfl ?_
        refine gf_RX9_66 B rfl (wf_2 hW) (wf_141 hW) dX9_redo_74 ?_
        refine gf_RX9_303 B rfl (wf_44 hW) dX9_redo_77 ?_
        refine j_aload_n B dX9_redo_80 rfl 1 rfl ?_
        refine gf_RX9_66 B rfl (wf_2 hW) (wf_141 hW) dX9_redo_81 ?_
        refine gf_RX9_291 B rfl (wf_44 hW) dX9_redo_84 ?_
        refine j_isub B dX9_redo_87 ?_
        obtain ⟨e1, e2⟩ := Prod.mk.inj (Option.some.inj h)
        subst e1
        subst e2
        exact j_iret B E rfl dX9_redo_88 (Nat.le_refl _) (Nat.le_refl _) ⟨rfl, rfl, rfl, rfl⟩
      · replace h := h_neg c h
        refine j_bipush B dX9_redo_29 (v := (-5)) (by decide) ?_
        obtain ⟨e1, e2⟩ := Prod.mk.inj (Option.some.inj h)
        subst e1
        subst e2
        exact j_iret B E rfl dX9_redo_31 (Nat.le_refl _) (Nat.le_refl _) ⟨rfl, rfl, rfl, rfl⟩
def fX9_body (x1 : Int32) (vi0 : VI) : Option (Int32 × VI) := (fX9_isWithin x1 7).bind fun r1 => if r1 = true then (fX0_add x1 vi0).bind fun r2 => some (r2.1, r2.2) else some ((-1), vi0)
theorem tX9_body {G : GT} {sv : SV} {vi0 : VI} {vl0 : VL} {ns : Nat} {x1 : Int32} {r : Int32} {vi' : VI} (hW : WF sv ns) (h : fX9_body x1 vi0 = some (r, vi')) : Call G mX9_body 1 0 0 [.ref (G.1 + 0), .int x1] sv vi0 vl0 (QI r sv vi' vl0) := by
  refine j_mk (by decide +kernel) (Nat.le_of_ble_eq_true rfl) (fun Γ B E => ?_)
  show J G Γ 0 0 0 [(0, .ref (G.1 + 0)), (1, .int x1)] [] sv vi0 vl0
  unfold fX9_body at h
  refine j_iload_n B dX9_body_0 rfl 1 rfl ?_
  refine j_bipush B dX9_body_1 (v := 7) (by decide) ?_
  obtain ⟨r1, hr1, h⟩ := h_bind h
  refine j_cSI (rest := []) B (tX9_isWithin hr1) jt_RX9_90 wst_X9_isWithin rfl (by decide) (Nat.le_refl _) (Nat.le_refl _) rfl (Nat.le_of_ble_eq_true rfl) dX9_body_3 ?_
  refine j_if_ne (tgt := 11) B dX9_body_6 (by decide) (fun c => ?_) (fun c => ?_)
  · replace h := h_pos (b2i_1 c) h
    refine j_aload_n B dX9_body_11 rfl 0 rfl ?_
    refine gf_RX9_73 B rfl (wf_2 hW) (wf_146 hW) dX9_body_12 ?_
    refine j_iload_n B dX9_body_15 rfl 1 rfl ?_
    obtain ⟨r2, hr2, h⟩ := h_bind h
    refine j_cVI (rest := []) B (tX0_add hW hr2) cls0 (wf_49 hW) jt_RX9_309 wi_X0_add ws_X0_add rfl (by decide) (Nat.le_refl _) (Nat.le_refl _) rfl (Nat.le_of_ble_eq_true rfl) dX9_body_16 ?_
    obtain ⟨e1, e2⟩ := Prod.mk.inj (Option.some.inj h)
    subst e1
    subst e2
    exact j_iret B E rfl dX9_body_19 (Nat.le_refl _) (Nat.le_refl _) ⟨rfl, rfl, rfl, rfl⟩
  · replace h := h_neg (b2i_0 c) h
    refine j_iconst B dX9_body_9 (v := (-1)) (by decide) ?_
    obtain ⟨e1, e2⟩ := Prod.mk.inj (Option.some.inj h)
    subst e1
    subst e2
    exact j_iret B E rfl dX9_body_10 (Nat.le_refl _) (Nat.le_refl _) ⟨rfl, rfl, rfl, rfl⟩
def fX9_act (x1 : Int32) (x2 : Int32) (x3 : Int32) (vi0 : VI) : Option (Int32 × VI) := (fX0_has x1 (j_up vi0 47 3 0)).bind fun r1 => if r1 = true then (fX9_isWithin x2 3).bind fun r2 => if r2 = true then if inb x1 50 = true then (fX0g 64 0 x1 ((j_up vi0 47 3 0) 48 x1.toNatClampNeg) x2 x3 0 (j_up vi0 47 3 0)).bind fun r4 => some (r4.1, r4.2) else none else some (0, (j_up vi0 47 3 0)) else some (0, (j_up vi0 47 3 0))
theorem tX9_act {G : GT} {sv : SV} {vi0 : VI} {vl0 : VL} {ns : Nat} {x1 : Int32} {x2 : Int32} {x3 : Int32} {r : Int32} {vi' : VI} (hW : WF sv ns) (h : fX9_act x1 x2 x3 vi0 = some (r, vi')) : Call G mX9_act 65 0 0 [.ref (G.1 + 0), .int x1, .int x2, .int x3] sv vi0 vl0 (QI r sv vi' vl0) := by
  refine j_mk (by decide +kernel) (Nat.le_of_ble_eq_true rfl) (fun Γ B E => ?_)
  show J G Γ 0 0 0 [(0, .ref (G.1 + 0)), (1, .int x1), (2, .int x2), (3, .int x3)] [] sv vi0 vl0
  unfold fX9_act at h
  refine j_aload_n B dX9_act_0 rfl 0 rfl ?_
  refine gf_RX9_73 B rfl (wf_2 hW) (wf_146 hW) dX9_act_1 ?_
  refine j_iconst B dX9_act_4 (v := 0) (by decide) ?_
  refine pf_RX9_311 B rfl (wf_49 hW) dX9_act_5 ?_
  refine j_aload_n B dX9_act_8 rfl 0 rfl ?_
  refine gf_RX9_73 B rfl (wf_2 hW) (wf_146 hW) dX9_act_9 ?_
  refine j_iload_n B dX9_act_12 rfl 1 rfl ?_
  obtain ⟨r1, hr1, h⟩ := h_bind h
  refine j_cVI (rest := []) B (tX0_has hW hr1) cls0 (wf_49 hW) jt_RX9_314 wi_X0_has ws_X0_has rfl (by decide) (Nat.le_refl _) (Nat.le_refl _) rfl (Nat.le_of_ble_eq_true rfl) dX9_act_13 ?_
  refine j_if_eq (tgt := 27) B dX9_act_16 (by decide) (fun c => ?_) (fun c => ?_)
  · replace h := h_neg (b2i_0 c) h
    refine j_iconst B dX9_act_27 (v := 0) (by decide) ?_
    obtain ⟨e1, e2⟩ := Prod.mk.inj (Option.some.inj h)
    subst e1
    subst e2
    exact j_iret B E rfl dX9_act_28 (Nat.le_refl _) (Nat.le_refl _) ⟨rfl, rfl, rfl, rfl⟩
  · replace h := h_pos (b2i_1 c) h
    refine j_iload_n B dX9_act_19 rfl 2 rfl ?_
    refine j_iconst B dX9_act_20 (v := 3) (by decide) ?_
    obtain ⟨r2, hr2, h⟩ := h_bind h
    refine j_cSI (rest := []) B (tX9_isWithin hr2) jt_RX9_90 wst_X9_isWithin rfl (by decide) (Nat.le_refl _) (Nat.le_refl _) rfl (Nat.le_of_ble_eq_true rfl) dX9_act_21 ?_
    refine j_if_ne (tgt := 29) B dX9_act_24 (by decide) (fun c => ?_) (fun c => ?_)
    · replace h := h_pos (b2i_1 c) h
      refine j_aload_n B dX9_act_29 rfl 0 rfl ?_
      refine gf_RX9_73 B rfl (wf_2 hW) (wf_146 hW) dX9_act_30 ?_
      refine j_iload_n B dX9_act_33 rfl 1 rfl ?_
      refine j_aload_n B dX9_act_34 rfl 0 rfl ?_
      refine gf_RX9_73 B rfl (wf_2 hW) (wf_146 hW) dX9_act_35 ?_
      refine gf_RX9_317 B rfl (wf_49 hW) (wf_147 hW) dX9_act_38 ?_
      refine j_iload_n B dX9_act_41 rfl 1 rfl ?_
      obtain ⟨b3, h⟩ := h_inb h
      refine j_iald B ((wf_50 hW)) b3 dX9_act_42 ?_
      refine j_iload_n B dX9_act_43 rfl 2 rfl ?_
      refine j_iload_n B dX9_act_44 rfl 3 rfl ?_
      refine j_iconst B dX9_act_45 (v := 0) (by decide) ?_
      obtain ⟨r4, hr4, h⟩ := h_bind h
      refine j_cMI (rest := []) (n := 5) B (tX0_run_g hW hr4) cls0 (wf_49 hW) (host := "DustInOrder") (by decide +kernel) wc_X0_run wini_RX0 (by decide +kernel) (by decide) wi_X0_run ws_X0_run rfl (by decide) (Nat.le_refl _) (Nat.le_refl _) rfl (Nat.le_of_ble_eq_true rfl) dX9_act_46 ?_
      obtain ⟨e1, e2⟩ := Prod.mk.inj (Option.some.inj h)
      subst e1
      subst e2
      exact j_iret B E rfl dX9_act_49 (Nat.le_refl _) (Nat.le_refl _) ⟨rfl, rfl, rfl, rfl⟩
    · replace h := h_neg (b2i_0 c) h
      refine j_iconst B dX9_act_27 (v := 0) (by decide) ?_
      obtain ⟨e1, e2⟩ := Prod.mk.inj (Option.some.inj h)
      subst e1
      subst e2
      exact j_iret B E rfl dX9_act_28 (Nat.le_refl _) (Nat.le_refl _) ⟨rfl, rfl, rfl, rfl⟩
def fX9_trace (x1 : Int32) (vi0 : VI) : Option (Int32) := if x1 < 0 then some ((-1)) else if 24 ≤ x1 then some ((-1)) else if (vi0 47 3) ≤ x1 then some ((-1)) else if inb x1 24 = true then some ((vi0 49 x1.toNatClampNeg)) else none
theorem tX9_trace {G : GT} {sv : SV} {vi0 : VI} {vl0 : VL} {ns : Nat} {x1 : Int32} {r : Int32} (hW : WF sv ns) (h : fX9_trace x1 vi0 = some (r)) : Call G mX9_trace 0 0 0 [.ref (G.1 + 0), .int x1] sv vi0 vl0 (QI r sv vi0 vl0) := by
  refine j_mk (by decide +kernel) (Nat.le_of_ble_eq_true rfl) (fun Γ B E => ?_)
  show J G Γ 0 0 0 [(0, .ref (G.1 + 0)), (1, .int x1)] [] sv vi0 vl0
  unfold fX9_trace at h
  refine j_iload_n B dX9_trace_0 rfl 1 rfl ?_
  refine j_if_lt (tgt := 33) B dX9_trace_1 (by decide) (fun c => ?_) (fun c => ?_)
  · replace h := h_pos c h
    refine j_iconst B dX9_trace_33 (v := (-1)) (by decide) ?_
    have e1 := Option.some.inj h
    subst e1
    exact j_iret B E rfl dX9_trace_34 (Nat.le_refl _) (Nat.le_refl _) ⟨rfl, rfl, rfl, rfl⟩
  · replace h := h_neg c h
    refine j_iload_n B dX9_trace_4 rfl 1 rfl ?_
    refine j_bipush B dX9_trace_5 (v := 24) (by decide) ?_
    refine j_icmp_ge (tgt := 33) B dX9_trace_7 (by decide) (fun c => ?_) (fun c => ?_)
    · replace h := h_pos c h
      refine j_iconst B dX9_trace_33 (v := (-1)) (by decide) ?_
      have e1 := Option.some.inj h
      subst e1
      exact j_iret B E rfl dX9_trace_34 (Nat.le_refl _) (Nat.le_refl _) ⟨rfl, rfl, rfl, rfl⟩
    · replace h := h_neg c h
      refine j_iload_n B dX9_trace_10 rfl 1 rfl ?_
      refine j_aload_n B dX9_trace_11 rfl 0 rfl ?_
      refine gf_RX9_73 B rfl (wf_2 hW) (wf_146 hW) dX9_trace_12 ?_
      refine gf_RX9_311 B rfl (wf_49 hW) dX9_trace_15 ?_
      refine j_icmp_ge (tgt := 33) B dX9_trace_18 (by decide) (fun c => ?_) (fun c => ?_)
      · replace h := h_pos c h
        refine j_iconst B dX9_trace_33 (v := (-1)) (by decide) ?_
        have e1 := Option.some.inj h
        subst e1
        exact j_iret B E rfl dX9_trace_34 (Nat.le_refl _) (Nat.le_refl _) ⟨rfl, rfl, rfl, rfl⟩
      · replace h := h_neg c h
        refine j_aload_n B dX9_trace_21 rfl 0 rfl ?_
        refine gf_RX9_73 B rfl (wf_2 hW) (wf_146 hW) dX9_trace_22 ?_
        refine gf_RX9_324 B rfl (wf_49 hW) (wf_148 hW) dX9_trace_25 ?_
        refine j_iload_n B dX9_trace_28 rfl 1 rfl ?_
        obtain ⟨b1, h⟩ := h_inb h
        refine j_iald B ((wf_51 hW)) b1 dX9_trace_29 ?_
        refine j_goto (tgt := 34) B dX9_trace_30 (by decide) ?_
        have e1 := Option.some.inj h
        subst e1
        exact j_iret B E rfl dX9_trace_34 (Nat.le_refl _) (Nat.le_refl _) ⟨rfl, rfl, rfl, rfl⟩
def fX9_keep_43  (x2 : Int32) (x3 : Nat) (s0 : Nat) (s1 : Int32) (vi : VI) : Option (Int32 × VI) := some (1, (j_up (j_up vi s0 0 s1) x3 1 x2))
theorem tX9_keep_43 {G : GT} {sv : SV} {vl0 : VL} {ns : Nat} {Γ : CT} {r : Int32} {vi' : VI} (B : Base G Γ mX9_keep 2 0 0) (E : Ends G Γ 0 0 (QI r sv vi' vl0)) (hW : WF sv ns) : ∀ (x2 : Int32) (x3 : Nat) (s0 : Nat) (s1 : Int32) (vi : VI) (h3 : isShelf sv x3) (hs0 : isShelf sv s0), fX9_keep_43  x2 x3 s0 s1 vi = some (r, vi') → J G Γ 0 0 43 [(2, .int x2), (3, .ref (G.1 + x3))] [.int s1, .ref (G.1 + s0)] sv vi vl0 := by
  intro x2 x3 s0 s1 vi h3 hs0 h
  unfold fX9_keep_43 at h
  refine pf_RX9_105 B rfl ((hs0).1) dX9_keep_43 ?_
  refine j_aload_n B dX9_keep_46 rfl 1 rfl ?_
  refine j_iload_n B dX9_keep_47 rfl 0 rfl ?_
  refine pf_RX9_327 B rfl ((h3).1) dX9_keep_48 ?_
  refine j_iconst B dX9_keep_51 (v := 1) (by decide) ?_
  obtain ⟨e1, e2⟩ := Prod.mk.inj (Option.some.inj h)
  subst e1
  subst e2
  exact j_iret B E rfl dX9_keep_52 (Nat.le_refl _) (Nat.le_refl _) ⟨rfl, rfl, rfl, rfl⟩
def fX9_keep_25  (x1 : Int32) (x2 : Int32) (vi : VI) : Option (Int32 × VI) := if inb x1 6 = true then if x2 = (-1) then fX9_keep_43  x2 (51 + 2 * x1.toNatClampNeg) (51 + 2 * x1.toNatClampNeg) 0 vi else fX9_keep_43  x2 (51 + 2 * x1.toNatClampNeg) (51 + 2 * x1.toNatClampNeg) 1 vi else none
theorem tX9_keep_25 {G : GT} {sv : SV} {vl0 : VL} {ns : Nat} {Γ : CT} {r : Int32} {vi' : VI} (B : Base G Γ mX9_keep 2 0 0) (E : Ends G Γ 0 0 (QI r sv vi' vl0)) (hW : WF sv ns) : ∀ (x1 : Int32) (x2 : Int32) (vi : VI), fX9_keep_25  x1 x2 vi = some (r, vi') → J G Γ 0 0 25 [(0, .ref (G.1 + 0)), (1, .int x1), (2, .int x2)] [] sv vi vl0 := by
  intro x1 x2 vi  h
  unfold fX9_keep_25 at h
  refine j_aload_n B dX9_keep_25 rfl 0 rfl ?_
  refine gf_RX9_79 B rfl (wf_2 hW) (wf_149 hW) dX9_keep_26 ?_
  refine j_iload_n B dX9_keep_29 rfl 1 rfl ?_
  obtain ⟨b2, h⟩ := h_inb h
  refine j_aald B (wf_52 hW) (Or.inr (Or.inl rfl)) b2 (wf_shv hW b2) dX9_keep_30 ?_
  refine j_astore_n (L' := [(3, .ref (G.1 + (51 + 2 * x1.toNatClampNeg))), (0, .ref (G.1 + 0)), (1, .int x1), (2, .int x2)]) B dX9_keep_31 rfl (by decide) rfl ?_
  refine j_aload_n B dX9_keep_32 rfl 0 rfl ?_
  refine j_iload_n B dX9_keep_33 rfl 3 rfl ?_
  refine j_iconst B dX9_keep_34 (v := (-1)) (by decide) ?_
  refine j_icmp_ne (tgt := 42) B dX9_keep_35 (by decide) (fun c => ?_) (fun c => ?_)
  · replace h := h_neg c h
    refine j_iconst B dX9_keep_42 (v := 1) (by decide) ?_
    refine j_locals [3, 0] rfl ?_
    exact tX9_keep_43 B E hW (x2) ((51 + 2 * x1.toNatClampNeg)) ((51 + 2 * x1.toNatClampNeg)) (1) (vi) (wf_shelf hW b2) (wf_shelf hW b2) h
  · replace h := h_pos c h
    refine j_iconst B dX9_keep_38 (v := 0) (by decide) ?_
    refine j_goto (tgt := 43) B dX9_keep_39 (by decide) ?_
    refine j_locals [3, 0] rfl ?_
    exact tX9_keep_43 B E hW (x2) ((51 + 2 * x1.toNatClampNeg)) ((51 + 2 * x1.toNatClampNeg)) (0) (vi) (wf_shelf hW b2) (wf_shelf hW b2) h
def fX9_keep (x1 : Int32) (x2 : Int32) (vi0 : VI) : Option (Int32 × VI) := (fX9_isShelf x1).bind fun r1 => if r1 = true then if x2 = (-1) then fX9_keep_25  x1 x2 vi0 else (fX0_has x2 vi0).bind fun r3 => if r3 = true then fX9_keep_25  x1 x2 vi0 else some ((-1), vi0) else some ((-1), vi0)
theorem tX9_keep {G : GT} {sv : SV} {vi0 : VI} {vl0 : VL} {ns : Nat} {x1 : Int32} {x2 : Int32} {r : Int32} {vi' : VI} (hW : WF sv ns) (h : fX9_keep x1 x2 vi0 = some (r, vi')) : Call G mX9_keep 2 0 0 [.ref (G.1 + 0), .int x1, .int x2] sv vi0 vl0 (QI r sv vi' vl0) := by
  refine j_mk (by decide +kernel) (Nat.le_of_ble_eq_true rfl) (fun Γ B E => ?_)
  show J G Γ 0 0 0 [(0, .ref (G.1 + 0)), (1, .int x1), (2, .int x2)] [] sv vi0 vl0
  unfold fX9_keep at h
  refine j_iload_n B dX9_keep_0 rfl 1 rfl ?_
  obtain ⟨r1, hr1, h⟩ := h_bind h
  refine j_cSI (rest := []) B (tX9_isShelf hr1) jt_RX9_101 wst_X9_isShelf rfl (by decide) (Nat.le_refl _) (Nat.le_refl _) rfl (Nat.le_of_ble_eq_true rfl) dX9_keep_1 ?_
  refine j_if_eq (tgt := 23) B dX9_keep_4 (by decide) (fun c => ?_) (fun c => ?_)
  · replace h := h_neg (b2i_0 c) h
    refine j_iconst B dX9_keep_23 (v := (-1)) (by decide) ?_
    obtain ⟨e1, e2⟩ := Prod.mk.inj (Option.some.inj h)
    subst e1
    subst e2
    exact j_iret B E rfl dX9_keep_24 (Nat.le_refl _) (Nat.le_refl _) ⟨rfl, rfl, rfl, rfl⟩
  · replace h := h_pos (b2i_1 c) h
    refine j_iload_n B dX9_keep_7 rfl 2 rfl ?_
    refine j_iconst B dX9_keep_8 (v := (-1)) (by decide) ?_
    refine j_icmp_eq (tgt := 25) B dX9_keep_9 (by decide) (fun c => ?_) (fun c => ?_)
    · replace h := h_pos c h
      refine j_locals [0, 1, 2] rfl ?_
      exact tX9_keep_25 B E hW (x1) (x2) (vi0)  h
    · replace h := h_neg c h
      refine j_aload_n B dX9_keep_12 rfl 0 rfl ?_
      refine gf_RX9_73 B rfl (wf_2 hW) (wf_146 hW) dX9_keep_13 ?_
      refine j_iload_n B dX9_keep_16 rfl 2 rfl ?_
      obtain ⟨r3, hr3, h⟩ := h_bind h
      refine j_cVI (rest := []) B (tX0_has hW hr3) cls0 (wf_49 hW) jt_RX9_314 wi_X0_has ws_X0_has rfl (by decide) (Nat.le_refl _) (Nat.le_refl _) rfl (Nat.le_of_ble_eq_true rfl) dX9_keep_17 ?_
      refine j_if_ne (tgt := 25) B dX9_keep_20 (by decide) (fun c => ?_) (fun c => ?_)
      · replace h := h_pos (b2i_1 c) h
        refine j_locals [0, 1, 2] rfl ?_
        exact tX9_keep_25 B E hW (x1) (x2) (vi0)  h
      · replace h := h_neg (b2i_0 c) h
        refine j_iconst B dX9_keep_23 (v := (-1)) (by decide) ?_
        obtain ⟨e1, e2⟩ := Prod.mk.inj (Option.some.inj h)
        subst e1
        subst e2
        exact j_iret B E rfl dX9_keep_24 (Nat.le_refl _) (Nat.le_refl _) ⟨rfl, rfl, rfl, rfl⟩
def fX9_row (x1 : Int32) (x2 : Int32) (x3 : Int32) (vi0 : VI) (vl0 : VL) : Option (Int32 × VI × VL) := (fX9_isShelf x1).bind fun r1 => if r1 = true then (fX9_isWithin x2 4).bind fun r2 => if r2 = true then if x3 ≤ 60 then if 0 ≤ x3 then if inb x1 6 = true then (fJ7_fill_d0a16 ((51 + 2 * x1.toNatClampNeg) + 1) 60 0 vl0).bind fun r4 => some (1, (j_up (j_up (j_up vi0 (51 + 2 * x1.toNatClampNeg) 0 2) (51 + 2 * x1.toNatClampNeg) 2 x2) (51 + 2 * x1.toNatClampNeg) 3 x3), r4) else none else some ((-14), vi0, vl0) else some ((-1), vi0, vl0) else some ((-1), vi0, vl0) else some ((-1), vi0, vl0)
theorem tX9_row {G : GT} {sv : SV} {vi0 : VI} {vl0 : VL} {ns : Nat} {x1 : Int32} {x2 : Int32} {x3 : Int32} {r : Int32} {vi' : VI} {vl' : VL} (hW : WF sv ns) (h : fX9_row x1 x2 x3 vi0 vl0 = some (r, vi', vl')) : Call G mX9_row 2 0 0 [.ref (G.1 + 0), .int x1, .int x2, .int x3] sv vi0 vl0 (QI r sv vi' vl') := by
  refine j_mk (by decide +kernel) (Nat.le_of_ble_eq_true rfl) (fun Γ B E => ?_)
  show J G Γ 0 0 0 [(0, .ref (G.1 + 0)), (1, .int x1), (2, .int x2), (3, .int x3)] [] sv vi0 vl0
  unfold fX9_row at h
  refine j_iload_n B dX9_row_0 rfl 1 rfl ?_
  obtain ⟨r1, hr1, h⟩ := h_bind h
  refine j_cSI (rest := []) B (tX9_isShelf hr1) jt_RX9_101 wst_X9_isShelf rfl (by decide) (Nat.le_refl _) (Nat.le_refl _) rfl (Nat.le_of_ble_eq_true rfl) dX9_row_1 ?_
  refine j_if_eq (tgt := 21) B dX9_row_4 (by decide) (fun c => ?_) (fun c => ?_)
  · replace h := h_neg (b2i_0 c) h
    refine j_iconst B dX9_row_21 (v := (-1)) (by decide) ?_
    obtain ⟨e1, e2⟩ := Prod.mk.inj (Option.some.inj h)
    obtain ⟨e2, e3⟩ := Prod.mk.inj e2
    subst e1
    subst e2
    subst e3
    exact j_iret B E rfl dX9_row_22 (Nat.le_refl _) (Nat.le_refl _) ⟨rfl, rfl, rfl, rfl⟩
  · replace h := h_pos (b2i_1 c) h
    refine j_iload_n B dX9_row_7 rfl 2 rfl ?_
    refine j_iconst B dX9_row_8 (v := 4) (by decide) ?_
    obtain ⟨r2, hr2, h⟩ := h_bind h
    refine j_cSI (rest := []) B (tX9_isWithin hr2) jt_RX9_90 wst_X9_isWithin rfl (by decide) (Nat.le_refl _) (Nat.le_refl _) rfl (Nat.le_of_ble_eq_true rfl) dX9_row_9 ?_
    refine j_if_eq (tgt := 21) B dX9_row_12 (by decide) (fun c => ?_) (fun c => ?_)
    · replace h := h_neg (b2i_0 c) h
      refine j_iconst B dX9_row_21 (v := (-1)) (by decide) ?_
      obtain ⟨e1, e2⟩ := Prod.mk.inj (Option.some.inj h)
      obtain ⟨e2, e3⟩ := Prod.mk.inj e2
      subst e1
      subst e2
      subst e3
      exact j_iret B E rfl dX9_row_22 (Nat.le_refl _) (Nat.le_refl _) ⟨rfl, rfl, rfl, rfl⟩
    · replace h := h_pos (b2i_1 c) h
      refine j_iload_n B dX9_row_15 rfl 3 rfl ?_
      refine j_bipush B dX9_row_16 (v := 60) (by decide) ?_
      refine j_icmp_le (tgt := 23) B dX9_row_18 (by decide) (fun c => ?_) (fun c => ?_)
      · replace h := h_pos c h
        refine j_iload_n B dX9_row_23 rfl 3 rfl ?_
        refine j_if_ge (tgt := 30) B dX9_row_24 (by decide) (fun c => ?_) (fun c => ?_)
        · replace h := h_pos c h
          refine j_aload_n B dX9_row_30 rfl 0 rfl ?_
          refine gf_RX9_79 B rfl (wf_2 hW) (wf_149 hW) dX9_row_31 ?_
          refine j_iload_n B dX9_row_34 rfl 1 rfl ?_
          obtain ⟨b3, h⟩ := h_inb h
          refine j_aald B (wf_52 hW) (Or.inr (Or.inl rfl)) b3 (wf_shv hW b3) dX9_row_35 ?_
          refine j_astore (L' := [(4, .ref (G.1 + (51 + 2 * x1.toNatClampNeg))), (0, .ref (G.1 + 0)), (1, .int x1), (2, .int x2), (3, .int x3)]) B dX9_row_36 (by decide) rfl ?_
          refine j_aload B dX9_row_38 0 rfl ?_
          refine j_iconst B dX9_row_40 (v := 2) (by decide) ?_
          refine pf_RX9_105 B rfl ((wf_shelf hW b3).1) dX9_row_41 ?_
          refine j_aload B dX9_row_44 0 rfl ?_
          refine j_iload_n B dX9_row_46 rfl 3 rfl ?_
          refine pf_RX9_330 B rfl ((wf_shelf hW b3).1) dX9_row_47 ?_
          refine j_aload B dX9_row_50 0 rfl ?_
          refine j_iload_n B dX9_row_52 rfl 4 rfl ?_
          refine pf_RX9_112 B rfl ((wf_shelf hW b3).1) dX9_row_53 ?_
          refine j_aload B dX9_row_56 0 rfl ?_
          refine gf_RX9_115 B rfl ((wf_shelf hW b3).1) (wf_shelf hW b3).2.1 dX9_row_58 ?_
          refine j_lconst B dX9_row_61 (v := 0) rfl ?_
          obtain ⟨r4, hr4, h⟩ := h_bind h
          refine j_cSV (rest := []) B (tJ7_fill_d0a16 ((wf_shelf hW b3).2.2) hr4) jt_RX9_333 wst_J7_fill_d0a16 rfl (by decide) (Nat.le_refl _) (Nat.le_refl _) rfl (Nat.le_of_ble_eq_true rfl) dX9_row_62 ?_
          refine j_iconst B dX9_row_65 (v := 1) (by decide) ?_
          obtain ⟨e1, e2⟩ := Prod.mk.inj (Option.some.inj h)
          obtain ⟨e2, e3⟩ := Prod.mk.inj e2
          subst e1
          subst e2
          subst e3
          exact j_iret B E rfl dX9_row_66 (Nat.le_refl _) (Nat.le_refl _) ⟨rfl, rfl, rfl, rfl⟩
        · replace h := h_neg c h
          refine j_bipush B dX9_row_27 (v := (-14)) (by decide) ?_
          obtain ⟨e1, e2⟩ := Prod.mk.inj (Option.some.inj h)
          obtain ⟨e2, e3⟩ := Prod.mk.inj e2
          subst e1
          subst e2
          subst e3
          exact j_iret B E rfl dX9_row_29 (Nat.le_refl _) (Nat.le_refl _) ⟨rfl, rfl, rfl, rfl⟩
      · replace h := h_neg c h
        refine j_iconst B dX9_row_21 (v := (-1)) (by decide) ?_
        obtain ⟨e1, e2⟩ := Prod.mk.inj (Option.some.inj h)
        obtain ⟨e2, e3⟩ := Prod.mk.inj e2
        subst e1
        subst e2
        subst e3
        exact j_iret B E rfl dX9_row_22 (Nat.le_refl _) (Nat.le_refl _) ⟨rfl, rfl, rfl, rfl⟩
def fX9_refusalOfPlace (x1 : Int32) (x2 : Int32) (vi0 : VI) : Option (Int32) := (fX9_isShelf x1).bind fun r1 => if r1 = true then if inb x1 6 = true then if (vi0 (51 + 2 * x1.toNatClampNeg) 0) = 0 then some ((-11)) else if inb x1 6 = true then (fX6_isRow (51 + 2 * x1.toNatClampNeg) vi0).bind fun r4 => if r4 = true then if inb x1 6 = true then (fX6_hasPlaces (51 + 2 * x1.toNatClampNeg) x2 1 vi0).bind fun r6 => if r6 = true then some (0) else some ((-13)) else none else some ((-12)) else none else none else some ((-1))
theorem tX9_refusalOfPlace {G : GT} {sv : SV} {vi0 : VI} {vl0 : VL} {ns : Nat} {x1 : Int32} {x2 : Int32} {r : Int32} (hW : WF sv ns) (h : fX9_refusalOfPlace x1 x2 vi0 = some (r)) : Call G mX9_refusalOfPlace 2 0 0 [.ref (G.1 + 0), .int x1, .int x2] sv vi0 vl0 (QI r sv vi0 vl0) := by
  refine j_mk (by decide +kernel) (Nat.le_of_ble_eq_true rfl) (fun Γ B E => ?_)
  show J G Γ 0 0 0 [(0, .ref (G.1 + 0)), (1, .int x1), (2, .int x2)] [] sv vi0 vl0
  unfold fX9_refusalOfPlace at h
  refine j_iload_n B dX9_refusalOfPlace_0 rfl 1 rfl ?_
  obtain ⟨r1, hr1, h⟩ := h_bind h
  refine j_cSI (rest := []) B (tX9_isShelf hr1) jt_RX9_101 wst_X9_isShelf rfl (by decide) (Nat.le_refl _) (Nat.le_refl _) rfl (Nat.le_of_ble_eq_true rfl) dX9_refusalOfPlace_1 ?_
  refine j_if_ne (tgt := 9) B dX9_refusalOfPlace_4 (by decide) (fun c => ?_) (fun c => ?_)
  · replace h := h_pos (b2i_1 c) h
    refine j_aload_n B dX9_refusalOfPlace_9 rfl 0 rfl ?_
    refine gf_RX9_79 B rfl (wf_2 hW) (wf_149 hW) dX9_refusalOfPlace_10 ?_
    refine j_iload_n B dX9_refusalOfPlace_13 rfl 1 rfl ?_
    obtain ⟨b2, h⟩ := h_inb h
    refine j_aald B (wf_52 hW) (Or.inr (Or.inl rfl)) b2 (wf_shv hW b2) dX9_refusalOfPlace_14 ?_
    refine gf_RX9_105 B rfl ((wf_shelf hW b2).1) dX9_refusalOfPlace_15 ?_
    refine j_if_ne (tgt := 24) B dX9_refusalOfPlace_18 (by decide) (fun c => ?_) (fun c => ?_)
    · replace h := h_neg c h
      refine j_aload_n B dX9_refusalOfPlace_24 rfl 0 rfl ?_
      refine gf_RX9_79 B rfl (wf_2 hW) (wf_149 hW) dX9_refusalOfPlace_25 ?_
      refine j_iload_n B dX9_refusalOfPlace_28 rfl 1 rfl ?_
      obtain ⟨b3, h⟩ := h_inb h
      refine j_aald B (wf_52 hW) (Or.inr (Or.inl rfl)) b3 (wf_shv hW b3) dX9_refusalOfPlace_29 ?_
      obtain ⟨r4, hr4, h⟩ := h_bind h
      refine j_cVI (rest := []) B (tX6_isRow (wf_shelf hW b3) hr4) cls6 ((wf_shelf hW b3).1) jt_RX9_343 wi_X6_isRow ws_X6_isRow rfl (by decide) (Nat.le_refl _) (Nat.le_refl _) rfl (Nat.le_of_ble_eq_true rfl) dX9_refusalOfPlace_30 ?_
      refine j_if_ne (tgt := 39) B dX9_refusalOfPlace_33 (by decide) (fun c => ?_) (fun c => ?_)
      · replace h := h_pos (b2i_1 c) h
        refine j_aload_n B dX9_refusalOfPlace_39 rfl 0 rfl ?_
        refine gf_RX9_79 B rfl (wf_2 hW) (wf_149 hW) dX9_refusalOfPlace_40 ?_
        refine j_iload_n B dX9_refusalOfPlace_43 rfl 1 rfl ?_
        obtain ⟨b5, h⟩ := h_inb h
        refine j_aald B (wf_52 hW) (Or.inr (Or.inl rfl)) b5 (wf_shv hW b5) dX9_refusalOfPlace_44 ?_
        refine j_iload_n B dX9_refusalOfPlace_45 rfl 2 rfl ?_
        refine j_iconst B dX9_refusalOfPlace_46 (v := 1) (by decide) ?_
        obtain ⟨r6, hr6, h⟩ := h_bind h
        refine j_cVI (rest := []) B (tX6_hasPlaces (wf_shelf hW b5) hr6) cls6 ((wf_shelf hW b5).1) jt_RX9_346 wi_X6_hasPlaces ws_X6_hasPlaces rfl (by decide) (Nat.le_refl _) (Nat.le_refl _) rfl (Nat.le_of_ble_eq_true rfl) dX9_refusalOfPlace_47 ?_
        refine j_if_eq (tgt := 57) B dX9_refusalOfPlace_50 (by decide) (fun c => ?_) (fun c => ?_)
        · replace h := h_neg (b2i_0 c) h
          refine j_bipush B dX9_refusalOfPlace_57 (v := (-13)) (by decide) ?_
          have e1 := Option.some.inj h
          subst e1
          exact j_iret B E rfl dX9_refusalOfPlace_59 (Nat.le_refl _) (Nat.le_refl _) ⟨rfl, rfl, rfl, rfl⟩
        · replace h := h_pos (b2i_1 c) h
          refine j_iconst B dX9_refusalOfPlace_53 (v := 0) (by decide) ?_
          refine j_goto (tgt := 59) B dX9_refusalOfPlace_54 (by decide) ?_
          have e1 := Option.some.inj h
          subst e1
          exact j_iret B E rfl dX9_refusalOfPlace_59 (Nat.le_refl _) (Nat.le_refl _) ⟨rfl, rfl, rfl, rfl⟩
      · replace h := h_neg (b2i_0 c) h
        refine j_bipush B dX9_refusalOfPlace_36 (v := (-12)) (by decide) ?_
        have e1 := Option.some.inj h
        subst e1
        exact j_iret B E rfl dX9_refusalOfPlace_38 (Nat.le_refl _) (Nat.le_refl _) ⟨rfl, rfl, rfl, rfl⟩
    · replace h := h_pos c h
      refine j_bipush B dX9_refusalOfPlace_21 (v := (-11)) (by decide) ?_
      have e1 := Option.some.inj h
      subst e1
      exact j_iret B E rfl dX9_refusalOfPlace_23 (Nat.le_refl _) (Nat.le_refl _) ⟨rfl, rfl, rfl, rfl⟩
  · replace h := h_neg (b2i_0 c) h
    refine j_iconst B dX9_refusalOfPlace_7 (v := (-1)) (by decide) ?_
    have e1 := Option.some.inj h
    subst e1
    exact j_iret B E rfl dX9_refusalOfPlace_8 (Nat.le_refl _) (Nat.le_refl _) ⟨rfl, rfl, rfl, rfl⟩
