def fX10_alike_150  (k66 : Int32 → Int32 → Int32 → Int32 → Int32 → Int32 → VI → Option (Int32 × VI)) (k75 : Int32 → Int32 → Int32 → Int32 → Int32 → Int32 → Int32 → VI → Option (Int32 × VI)) (x2 : Int32) (x3 : Int32) (x4 : Int32) (x5 : Int32) (x6 : Int32) (x7 : Int32) (x8 : Int32) (vi : VI) : Option (Int32 × VI) := k75 x2 x3 x4 x5 x6 x7 (x8 + 1) vi
theorem tX10_alike_150 {G : GT} {sv : SV} {vl0 : VL} {ns : Nat} {Γ : CT} {r : Int32} {vi' : VI} {k66 : Int32 → Int32 → Int32 → Int32 → Int32 → Int32 → VI → Option (Int32 × VI)} {k75 : Int32 → Int32 → Int32 → Int32 → Int32 → Int32 → Int32 → VI → Option (Int32 × VI)} (B : Base G Γ mX10_alike 3 0 0) (E : Ends G Γ 0 0 (QI r sv vi' vl0)) (hW : WF sv ns) (hk66 : ∀ (x2 : Int32) (x3 : Int32) (x4 : Int32) (x5 : Int32) (x6 : Int32) (x7 : Int32) (vi : VI), k66 x2 x3 x4 x5 x6 x7 vi = some (r, vi') → J G Γ 0 0 66 [(0, .ref (G.1 + 63)), (2, .int x2), (3, .int x3), (4, .int x4), (5, .int x5), (6, .int x6), (7, .int x7)] [] sv vi vl0) (hk75 : ∀ (x2 : Int32) (x3 : Int32) (x4 : Int32) (x5 : Int32) (x6 : Int32) (x7 : Int32) (x8 : Int32) (vi : VI), k75 x2 x3 x4 x5 x6 x7 x8 vi = some (r, vi') → J G Γ 0 0 75 [(0, .ref (G.1 + 63)), (2, .int x2), (3, .int x3), (4, .int x4), (5, .int x5), (6, .int x6), (7, .int x7), (8, .int x8)] [] sv vi vl0) : ∀ (x2 : Int32) (x3 : Int32) (x4 : Int32) (x5 : Int32) (x6 : Int32) (x7 : Int32) (x8 : Int32) (vi : VI), fX10_alike_150 k66 k75 x2 x3 x4 x5 x6 x7 x8 vi = some (r, vi') → J G Γ 0 0 150 [(0, .ref (G.1 + 63)), (2, .int x2), (3, .int x3), (4, .int x4), (5, .int x5), (6, .int x6), (7, .int x7), (8, .int x8)] [] sv vi vl0 := by
  intro x2 x3 x4 x5 x6 x7 x8 vi  h
  unfold fX10_alike_150 at h
  refine j_iinc (v := (x8 + 1)) (L' := [(8, .int (x8 + 1)), (0, .ref (G.1 + 63)), (2, .int x2), (3, .int x3), (4, .int x4), (5, .int x5), (6, .int x6), (7, .int x7)]) B dX10_alike_150 7 rfl rfl (by decide) rfl ?_
  refine j_goto (tgt := 75) B dX10_alike_153 (by decide) ?_
  refine j_locals [1, 2, 3, 4, 5, 6, 7, 0] rfl ?_
  exact hk75 (x2) (x3) (x4) (x5) (x6) (x7) ((x8 + 1)) (vi)  h
def fX10_alike_75  (k66 : Int32 → Int32 → Int32 → Int32 → Int32 → Int32 → VI → Option (Int32 × VI)) : Nat → Int32 → Int32 → Int32 → Int32 → Int32 → Int32 → Int32 → VI → Option (Int32 × VI)
  | 0, _, _, _, _, _, _, _, _ => none
  | F + 1, x2, x3, x4, x5, x6, x7, x8, vi => (fX10_placeOf x3 x5 x8 vi).bind fun r3 => if r3 < 0 then fX10_alike_150 k66 (fX10_alike_75 k66 F) x2 x3 x4 x5 x6 x7 x8 vi else (fX10_placeOf x4 x6 x8 vi).bind fun r4 => if r4 < 0 then fX10_alike_150 k66 (fX10_alike_75 k66 F) x2 x3 x4 x5 x6 x7 x8 vi else (fX10_placeOf x3 x5 x8 vi).bind fun r5 => (fX10_placeOf x4 x6 x8 vi).bind fun r6 => if inb (((13 * (r5 + 1)) + r6) + 1) 169 = true then if inb ((13 * x5) + x6) 169 = true then if (1 + (vi 86 (((13 * (r5 + 1)) + r6) + 1).toNatClampNeg)) = (vi 86 ((13 * x5) + x6).toNatClampNeg) then if x7 = x2 then some (x8, vi) else (fX10_placeOf x3 x5 x8 vi).bind fun r9 => (fX10_placeOf x4 x6 x8 vi).bind fun r10 => k66 x2 x3 x4 (r9 + 1) (r10 + 1) (x7 + 1) vi else fX10_alike_150 k66 (fX10_alike_75 k66 F) x2 x3 x4 x5 x6 x7 x8 vi else none else none
theorem tX10_alike_75 {G : GT} {sv : SV} {vl0 : VL} {ns : Nat} {Γ : CT} {r : Int32} {vi' : VI} {k66 : Int32 → Int32 → Int32 → Int32 → Int32 → Int32 → VI → Option (Int32 × VI)} (B : Base G Γ mX10_alike 3 0 0) (E : Ends G Γ 0 0 (QI r sv vi' vl0)) (hW : WF sv ns) (hk66 : ∀ (x2 : Int32) (x3 : Int32) (x4 : Int32) (x5 : Int32) (x6 : Int32) (x7 : Int32) (vi : VI), k66 x2 x3 x4 x5 x6 x7 vi = some (r, vi') → J G Γ 0 0 66 [(0, .ref (G.1 + 63)), (2, .int x2), (3, .int x3), (4, .int x4), (5, .int x5), (6, .int x6), (7, .int x7)] [] sv vi vl0) : ∀ (F : Nat) (x2 : Int32) (x3 : Int32) (x4 : Int32) (x5 : Int32) (x6 : Int32) (x7 : Int32) (x8 : Int32) (vi : VI), fX10_alike_75 k66 F x2 x3 x4 x5 x6 x7 x8 vi = some (r, vi') → J G Γ 0 0 75 [(0, .ref (G.1 + 63)), (2, .int x2), (3, .int x3), (4, .int x4), (5, .int x5), (6, .int x6), (7, .int x7), (8, .int x8)] [] sv vi vl0 := by
  intro F
  induction F with
  | zero =>
    intro x2 x3 x4 x5 x6 x7 x8 vi  h
    cases (show (none : Option (Int32 × VI)) = some (r, vi') from h)
  | succ F ih =>
    intro x2 x3 x4 x5 x6 x7 x8 vi  h
    rw [fX10_alike_75] at h
    refine j_aload_n B dX10_alike_75 rfl 0 rfl ?_
    refine j_iload_n B dX10_alike_76 rfl 2 rfl ?_
    refine j_iload B dX10_alike_77 4 rfl ?_
    refine j_iload B dX10_alike_79 7 rfl ?_
    obtain ⟨r3, hr3, h⟩ := h_bind h
    refine j_cVI (rest := []) B (tX10_placeOf hW hr3) cls10 (wf_65 hW) jt_RX10_361 wi_X10_placeOf ws_X10_placeOf rfl (by decide) (Nat.le_refl _) (Nat.le_refl _) rfl (Nat.le_of_ble_eq_true rfl) dX10_alike_81 ?_
    refine j_if_lt (tgt := 150) B dX10_alike_84 (by decide) (fun c => ?_) (fun c => ?_)
    · replace h := h_pos c h
      refine j_locals [0, 1, 2, 3, 4, 5, 6, 7] rfl ?_
      exact tX10_alike_150 B E hW hk66 ih (x2) (x3) (x4) (x5) (x6) (x7) (x8) (vi)  h
    · replace h := h_neg c h
      refine j_aload_n B dX10_alike_87 rfl 0 rfl ?_
      refine j_iload B dX10_alike_88 3 rfl ?_
      refine j_iload B dX10_alike_90 5 rfl ?_
      refine j_iload B dX10_alike_92 7 rfl ?_
      obtain ⟨r4, hr4, h⟩ := h_bind h
      refine j_cVI (rest := []) B (tX10_placeOf hW hr4) cls10 (wf_65 hW) jt_RX10_361 wi_X10_placeOf ws_X10_placeOf rfl (by decide) (Nat.le_refl _) (Nat.le_refl _) rfl (Nat.le_of_ble_eq_true rfl) dX10_alike_94 ?_
      refine j_if_lt (tgt := 150) B dX10_alike_97 (by decide) (fun c => ?_) (fun c => ?_)
      · replace h := h_pos c h
        refine j_locals [0, 1, 2, 3, 4, 5, 6, 7] rfl ?_
        exact tX10_alike_150 B E hW hk66 ih (x2) (x3) (x4) (x5) (x6) (x7) (x8) (vi)  h
      · replace h := h_neg c h
        refine j_iconst B dX10_alike_100 (v := 1) (by decide) ?_
        refine j_aload_n B dX10_alike_101 rfl 0 rfl ?_
        refine gf_RX10_81 B rfl (wf_65 hW) (wf_184 hW) dX10_alike_102 ?_
        refine j_bipush B dX10_alike_105 (v := 13) (by decide) ?_
        refine j_aload_n B dX10_alike_107 rfl 0 rfl ?_
        refine j_iload_n B dX10_alike_108 rfl 2 rfl ?_
        refine j_iload B dX10_alike_109 4 rfl ?_
        refine j_iload B dX10_alike_111 7 rfl ?_
        obtain ⟨r5, hr5, h⟩ := h_bind h
        refine j_cVI (rest := [.int 13, .ref (G.1 + 86), .int 1]) B (tX10_placeOf hW hr5) cls10 (wf_65 hW) jt_RX10_361 wi_X10_placeOf ws_X10_placeOf rfl (by decide) (Nat.le_refl _) (Nat.le_refl _) rfl (Nat.le_of_ble_eq_true rfl) dX10_alike_113 ?_
        refine j_iconst B dX10_alike_116 (v := 1) (by decide) ?_
        refine j_iadd B dX10_alike_117 ?_
        refine j_imul B dX10_alike_118 ?_
        refine j_aload_n B dX10_alike_119 rfl 0 rfl ?_
        refine j_iload B dX10_alike_120 3 rfl ?_
        refine j_iload B dX10_alike_122 5 rfl ?_
        refine j_iload B dX10_alike_124 7 rfl ?_
        obtain ⟨r6, hr6, h⟩ := h_bind h
        refine j_cVI (rest := [.int (13 * (r5 + 1)), .ref (G.1 + 86), .int 1]) B (tX10_placeOf hW hr6) cls10 (wf_65 hW) jt_RX10_361 wi_X10_placeOf ws_X10_placeOf rfl (by decide) (Nat.le_refl _) (Nat.le_refl _) rfl (Nat.le_of_ble_eq_true rfl) dX10_alike_126 ?_
        refine j_iadd B dX10_alike_129 ?_
        refine j_iconst B dX10_alike_130 (v := 1) (by decide) ?_
        refine j_iadd B dX10_alike_131 ?_
        obtain ⟨b7, h⟩ := h_inb h
        refine j_iald B ((wf_88 hW)) b7 dX10_alike_132 ?_
        refine j_iadd B dX10_alike_133 ?_
        refine j_aload_n B dX10_alike_134 rfl 0 rfl ?_
        refine gf_RX10_81 B rfl (wf_65 hW) (wf_184 hW) dX10_alike_135 ?_
        refine j_bipush B dX10_alike_138 (v := 13) (by decide) ?_
        refine j_iload B dX10_alike_140 4 rfl ?_
        refine j_imul B dX10_alike_142 ?_
        refine j_iload B dX10_alike_143 5 rfl ?_
        refine j_iadd B dX10_alike_145 ?_
        obtain ⟨b8, h⟩ := h_inb h
        refine j_iald B ((wf_88 hW)) b8 dX10_alike_146 ?_
        refine j_icmp_eq (tgt := 156) B dX10_alike_147 (by decide) (fun c => ?_) (fun c => ?_)
        · replace h := h_pos c h
          refine j_iload B dX10_alike_156 6 rfl ?_
          refine j_iload_n B dX10_alike_158 rfl 1 rfl ?_
          refine j_icmp_ne (tgt := 165) B dX10_alike_159 (by decide) (fun c => ?_) (fun c => ?_)
          · replace h := h_neg c h
            refine j_aload_n B dX10_alike_165 rfl 0 rfl ?_
            refine j_iload_n B dX10_alike_166 rfl 2 rfl ?_
            refine j_iload B dX10_alike_167 4 rfl ?_
            refine j_iload B dX10_alike_169 7 rfl ?_
            obtain ⟨r9, hr9, h⟩ := h_bind h
            refine j_cVI (rest := []) B (tX10_placeOf hW hr9) cls10 (wf_65 hW) jt_RX10_361 wi_X10_placeOf ws_X10_placeOf rfl (by decide) (Nat.le_refl _) (Nat.le_refl _) rfl (Nat.le_of_ble_eq_true rfl) dX10_alike_171 ?_
            refine j_iconst B dX10_alike_174 (v := 1) (by decide) ?_
            refine j_iadd B dX10_alike_175 ?_
            refine j_istore (L' := [(9, .int (r9 + 1)), (0, .ref (G.1 + 63)), (2, .int x2), (3, .int x3), (4, .int x4), (5, .int x5), (6, .int x6), (7, .int x7), (8, .int x8)]) B dX10_alike_176 (by decide) rfl ?_
            refine j_aload_n B dX10_alike_178 rfl 1 rfl ?_
            refine j_iload B dX10_alike_179 4 rfl ?_
            refine j_iload B dX10_alike_181 6 rfl ?_
            refine j_iload B dX10_alike_183 8 rfl ?_
            obtain ⟨r10, hr10, h⟩ := h_bind h
            refine j_cVI (rest := []) B (tX10_placeOf hW hr10) cls10 (wf_65 hW) jt_RX10_361 wi_X10_placeOf ws_X10_placeOf rfl (by decide) (Nat.le_refl _) (Nat.le_refl _) rfl (Nat.le_of_ble_eq_true rfl) dX10_alike_185 ?_
            refine j_iconst B dX10_alike_188 (v := 1) (by decide) ?_
            refine j_iadd B dX10_alike_189 ?_
            refine j_istore (L' := [(6, .int (r10 + 1)), (9, .int (r9 + 1)), (0, .ref (G.1 + 63)), (2, .int x2), (3, .int x3), (4, .int x4), (5, .int x5), (7, .int x7), (8, .int x8)]) B dX10_alike_190 (by decide) rfl ?_
            refine j_iload B dX10_alike_192 1 rfl ?_
            refine j_istore (L' := [(5, .int (r9 + 1)), (6, .int (r10 + 1)), (9, .int (r9 + 1)), (0, .ref (G.1 + 63)), (2, .int x2), (3, .int x3), (4, .int x4), (7, .int x7), (8, .int x8)]) B dX10_alike_194 (by decide) rfl ?_
            refine j_iinc (v := (x7 + 1)) (L' := [(7, .int (x7 + 1)), (5, .int (r9 + 1)), (6, .int (r10 + 1)), (9, .int (r9 + 1)), (0, .ref (G.1 + 63)), (2, .int x2), (3, .int x3), (4, .int x4), (8, .int x8)]) B dX10_alike_196 7 rfl rfl (by decide) rfl ?_
            refine j_goto (tgt := 66) B dX10_alike_199 (by decide) ?_
            refine j_locals [4, 5, 6, 7, 1, 2, 0] rfl ?_
            exact hk66 (x2) (x3) (x4) ((r9 + 1)) ((r10 + 1)) ((x7 + 1)) (vi)  h
          · replace h := h_pos c h
            refine j_iload B dX10_alike_162 7 rfl ?_
            obtain ⟨e1, e2⟩ := Prod.mk.inj (Option.some.inj h)
            subst e1
            subst e2
            exact j_iret B E rfl dX10_alike_164 (Nat.le_refl _) (Nat.le_refl _) ⟨rfl, rfl, rfl, rfl⟩
        · replace h := h_neg c h
          refine j_locals [0, 1, 2, 3, 4, 5, 6, 7] rfl ?_
          exact tX10_alike_150 B E hW hk66 ih (x2) (x3) (x4) (x5) (x6) (x7) (x8) (vi)  h
def fX10_alike_66  : Nat → Int32 → Int32 → Int32 → Int32 → Int32 → Int32 → VI → Option (Int32 × VI)
  | 0, _, _, _, _, _, _, _ => none
  | F + 1, x2, x3, x4, x5, x6, x7, vi => if x2 < x7 then some ((-2), vi) else fX10_alike_75 (fX10_alike_66  F) FU x2 x3 x4 x5 x6 x7 0 vi
theorem tX10_alike_66 {G : GT} {sv : SV} {vl0 : VL} {ns : Nat} {Γ : CT} {r : Int32} {vi' : VI} (B : Base G Γ mX10_alike 3 0 0) (E : Ends G Γ 0 0 (QI r sv vi' vl0)) (hW : WF sv ns) : ∀ (F : Nat) (x2 : Int32) (x3 : Int32) (x4 : Int32) (x5 : Int32) (x6 : Int32) (x7 : Int32) (vi : VI), fX10_alike_66  F x2 x3 x4 x5 x6 x7 vi = some (r, vi') → J G Γ 0 0 66 [(0, .ref (G.1 + 63)), (2, .int x2), (3, .int x3), (4, .int x4), (5, .int x5), (6, .int x6), (7, .int x7)] [] sv vi vl0 := by
  intro F
  induction F with
  | zero =>
    intro x2 x3 x4 x5 x6 x7 vi  h
    cases (show (none : Option (Int32 × VI)) = some (r, vi') from h)
  | succ F ih =>
    intro x2 x3 x4 x5 x6 x7 vi  h
    rw [fX10_alike_66] at h
    refine j_iload B dX10_alike_66 6 rfl ?_
    refine j_iload_n B dX10_alike_68 rfl 1 rfl ?_
    refine j_icmp_gt (tgt := 202) B dX10_alike_69 (by decide) (fun c => ?_) (fun c => ?_)
    · replace h := h_pos c h
      refine j_bipush B dX10_alike_202 (v := (-2)) (by decide) ?_
      obtain ⟨e1, e2⟩ := Prod.mk.inj (Option.some.inj h)
      subst e1
      subst e2
      exact j_iret B E rfl dX10_alike_204 (Nat.le_refl _) (Nat.le_refl _) ⟨rfl, rfl, rfl, rfl⟩
    · replace h := h_neg c h
      refine j_iconst B dX10_alike_72 (v := 0) (by decide) ?_
      refine j_istore (L' := [(8, .int 0), (0, .ref (G.1 + 63)), (2, .int x2), (3, .int x3), (4, .int x4), (5, .int x5), (6, .int x6), (7, .int x7)]) B dX10_alike_73 (by decide) rfl ?_
      refine j_locals [1, 2, 3, 4, 5, 6, 7, 0] rfl ?_
      exact tX10_alike_75 B E hW ih FU (x2) (x3) (x4) (x5) (x6) (x7) (0) (vi)  h
def fX10_alike (x1 : Int32) (x2 : Int32) (vi0 : VI) : Option (Int32 × VI) := (fX10_areSills x1 vi0).bind fun r1 => if r1 = true then if (-1) ≤ x2 then (fX10_findAlike (x1 / 10) (x1 - x1 / 10 * 10) vi0).bind fun r2 => if 0 ≤ x2 then if x2 < (r2 86 (0 : Int32).toNatClampNeg) then fX10_alike_66  FU x2 (x1 / 10) (x1 - x1 / 10 * 10) 0 0 0 r2 else some ((-2), r2) else some ((r2 86 (0 : Int32).toNatClampNeg), r2) else some ((-1), vi0) else some ((-1), vi0)
theorem tX10_alike {G : GT} {sv : SV} {vi0 : VI} {vl0 : VL} {ns : Nat} {x1 : Int32} {x2 : Int32} {r : Int32} {vi' : VI} (hW : WF sv ns) (h : fX10_alike x1 x2 vi0 = some (r, vi')) : Call G mX10_alike 3 0 0 [.ref (G.1 + 63), .int x1, .int x2] sv vi0 vl0 (QI r sv vi' vl0) := by
  refine j_mk (by decide +kernel) (Nat.le_of_ble_eq_true rfl) (fun Γ B E => ?_)
  show J G Γ 0 0 0 [(0, .ref (G.1 + 63)), (1, .int x1), (2, .int x2)] [] sv vi0 vl0
  unfold fX10_alike at h
  refine j_aload_n B dX10_alike_0 rfl 0 rfl ?_
  refine j_iload_n B dX10_alike_1 rfl 1 rfl ?_
  obtain ⟨r1, hr1, h⟩ := h_bind h
  refine j_cVI (rest := []) B (tX10_areSills hW hr1) cls10 (wf_65 hW) jt_RX10_355 wi_X10_areSills ws_X10_areSills rfl (by decide) (Nat.le_refl _) (Nat.le_refl _) rfl (Nat.le_of_ble_eq_true rfl) dX10_alike_2 ?_
  refine j_if_eq (tgt := 13) B dX10_alike_5 (by decide) (fun c => ?_) (fun c => ?_)
  · replace h := h_neg (b2i_0 c) h
    refine j_iconst B dX10_alike_13 (v := (-1)) (by decide) ?_
    obtain ⟨e1, e2⟩ := Prod.mk.inj (Option.some.inj h)
    subst e1
    subst e2
    exact j_iret B E rfl dX10_alike_14 (Nat.le_refl _) (Nat.le_refl _) ⟨rfl, rfl, rfl, rfl⟩
  · replace h := h_pos (b2i_1 c) h
    refine j_iload_n B dX10_alike_8 rfl 2 rfl ?_
    refine j_iconst B dX10_alike_9 (v := (-1)) (by decide) ?_
    refine j_icmp_ge (tgt := 15) B dX10_alike_10 (by decide) (fun c => ?_) (fun c => ?_)
    · replace h := h_pos c h
      refine j_iload_n B dX10_alike_15 rfl 1 rfl ?_
      refine j_bipush B dX10_alike_16 (v := 10) (by decide) ?_
      refine j_idiv B dX10_alike_18 (by decide) ?_
      refine j_istore_n (L' := [(3, .int (x1 / 10)), (0, .ref (G.1 + 63)), (1, .int x1), (2, .int x2)]) B dX10_alike_19 rfl (by decide) rfl ?_
      refine j_iload_n B dX10_alike_20 rfl 2 rfl ?_
      refine j_bipush B dX10_alike_21 (v := 10) (by decide) ?_
      refine j_irem B dX10_alike_23 (by decide) ?_
      refine j_istore (L' := [(4, .int (x1 - x1 / 10 * 10)), (3, .int (x1 / 10)), (0, .ref (G.1 + 63)), (1, .int x1), (2, .int x2)]) B dX10_alike_24 (by decide) rfl ?_
      refine j_aload_n B dX10_alike_26 rfl 2 rfl ?_
      refine j_iload_n B dX10_alike_27 rfl 1 rfl ?_
      refine j_iload B dX10_alike_28 0 rfl ?_
      obtain ⟨r2, hr2, h⟩ := h_bind h
      refine j_cVV (rest := []) B (tX10_findAlike hW hr2) cls10 (wf_65 hW) jt_RX10_358 wi_X10_findAlike ws_X10_findAlike rfl (by decide) (Nat.le_refl _) (Nat.le_refl _) rfl (Nat.le_of_ble_eq_true rfl) dX10_alike_30 ?_
      refine j_iload_n B dX10_alike_33 rfl 4 rfl ?_
      refine j_if_ge (tgt := 44) B dX10_alike_34 (by decide) (fun c => ?_) (fun c => ?_)
      · replace h := h_pos c h
        refine j_iload_n B dX10_alike_44 rfl 4 rfl ?_
        refine j_aload_n B dX10_alike_45 rfl 2 rfl ?_
        refine gf_RX10_81 B rfl (wf_65 hW) (wf_184 hW) dX10_alike_46 ?_
        refine j_iconst B dX10_alike_49 (v := 0) (by decide) ?_
        refine j_iald B ((wf_88 hW)) (vp_in_iff.mpr ⟨by decide, by decide⟩) dX10_alike_50 ?_
        refine j_icmp_lt (tgt := 57) B dX10_alike_51 (by decide) (fun c => ?_) (fun c => ?_)
        · replace h := h_pos c h
          refine j_iconst B dX10_alike_57 (v := 0) (by decide) ?_
          refine j_istore (L' := [(5, .int 0), (4, .int (x1 - x1 / 10 * 10)), (3, .int (x1 / 10)), (0, .ref (G.1 + 63)), (1, .int x1), (2, .int x2)]) B dX10_alike_58 (by decide) rfl ?_
          refine j_iconst B dX10_alike_60 (v := 0) (by decide) ?_
          refine j_istore (L' := [(6, .int 0), (5, .int 0), (4, .int (x1 - x1 / 10 * 10)), (3, .int (x1 / 10)), (0, .ref (G.1 + 63)), (1, .int x1), (2, .int x2)]) B dX10_alike_61 (by decide) rfl ?_
          refine j_iconst B dX10_alike_63 (v := 0) (by decide) ?_
          refine j_istore (L' := [(7, .int 0), (6, .int 0), (5, .int 0), (4, .int (x1 - x1 / 10 * 10)), (3, .int (x1 / 10)), (0, .ref (G.1 + 63)), (1, .int x1), (2, .int x2)]) B dX10_alike_64 (by decide) rfl ?_
          refine j_locals [5, 7, 4, 3, 2, 1, 0] rfl ?_
          exact tX10_alike_66 B E hW FU (x2) ((x1 / 10)) ((x1 - x1 / 10 * 10)) (0) (0) (0) (r2)  h
        · replace h := h_neg c h
          refine j_bipush B dX10_alike_54 (v := (-2)) (by decide) ?_
          obtain ⟨e1, e2⟩ := Prod.mk.inj (Option.some.inj h)
          subst e1
          subst e2
          exact j_iret B E rfl dX10_alike_56 (Nat.le_refl _) (Nat.le_refl _) ⟨rfl, rfl, rfl, rfl⟩
      · replace h := h_neg c h
        refine j_aload_n B dX10_alike_37 rfl 2 rfl ?_
        refine gf_RX10_81 B rfl (wf_65 hW) (wf_184 hW) dX10_alike_38 ?_
        refine j_iconst B dX10_alike_41 (v := 0) (by decide) ?_
        refine j_iald B ((wf_88 hW)) (vp_in_iff.mpr ⟨by decide, by decide⟩) dX10_alike_42 ?_
        obtain ⟨e1, e2⟩ := Prod.mk.inj (Option.some.inj h)
        subst e1
        subst e2
        exact j_iret B E rfl dX10_alike_43 (Nat.le_refl _) (Nat.le_refl _) ⟨rfl, rfl, rfl, rfl⟩
    · replace h := h_neg c h
      refine j_iconst B dX10_alike_13 (v := (-1)) (by decide) ?_
      obtain ⟨e1, e2⟩ := Prod.mk.inj (Option.some.inj h)
      subst e1
      subst e2
      exact j_iret B E rfl dX10_alike_14 (Nat.le_refl _) (Nat.le_refl _) ⟨rfl, rfl, rfl, rfl⟩
def fX10_same_40 (vi0 : VI) : Nat → Int32 → Int32 → Int32 → Option (Int32)
  | 0, _, _, _ => none
  | F + 1, x2, x3, x4 => if inb x2 5 = true then if (vi0 67 x2.toNatClampNeg) ≤ x4 then some (1) else (fX10_whomAt x2 x4 vi0).bind fun r5 => (fX10_whomAt x3 x4 vi0).bind fun r6 => if r5 = r6 then fX10_same_40 vi0 F x2 x3 (x4 + 1) else some (0) else none
theorem tX10_same_40 {G : GT} {sv : SV} {vi0 : VI} {vl0 : VL} {ns : Nat} {Γ : CT} {r : Int32} (B : Base G Γ mX10_same 3 0 0) (E : Ends G Γ 0 0 (QI r sv vi0 vl0)) (hW : WF sv ns) : ∀ (F : Nat) (x2 : Int32) (x3 : Int32) (x4 : Int32), fX10_same_40 vi0 F x2 x3 x4 = some (r) → J G Γ 0 0 40 [(0, .ref (G.1 + 63)), (2, .int x2), (3, .int x3), (4, .int x4)] [] sv vi0 vl0 := by
  intro F
  induction F with
  | zero =>
    intro x2 x3 x4  h
    cases (show (none : Option (Int32)) = some (r) from h)
  | succ F ih =>
    intro x2 x3 x4  h
    rw [fX10_same_40] at h
    refine j_iload B dX10_same_40 3 rfl ?_
    refine j_aload_n B dX10_same_42 rfl 0 rfl ?_
    refine gf_RX10_21 B rfl (wf_65 hW) (wf_165 hW) dX10_same_43 ?_
    refine j_iload_n B dX10_same_46 rfl 1 rfl ?_
    obtain ⟨b4, h⟩ := h_inb h
    refine j_iald B ((wf_69 hW)) b4 dX10_same_47 ?_
    refine j_icmp_ge (tgt := 76) B dX10_same_48 (by decide) (fun c => ?_) (fun c => ?_)
    · replace h := h_pos c h
      refine j_iconst B dX10_same_76 (v := 1) (by decide) ?_
      have e1 := Option.some.inj h
      subst e1
      exact j_iret B E rfl dX10_same_77 (Nat.le_refl _) (Nat.le_refl _) ⟨rfl, rfl, rfl, rfl⟩
    · replace h := h_neg c h
      refine j_aload_n B dX10_same_51 rfl 0 rfl ?_
      refine j_iload_n B dX10_same_52 rfl 1 rfl ?_
      refine j_iload B dX10_same_53 3 rfl ?_
      obtain ⟨r5, hr5, h⟩ := h_bind h
      refine j_cVI (rest := []) B (tX10_whomAt hW hr5) cls10 (wf_65 hW) jt_RX10_352 wi_X10_whomAt ws_X10_whomAt rfl (by decide) (Nat.le_refl _) (Nat.le_refl _) rfl (Nat.le_of_ble_eq_true rfl) dX10_same_55 ?_
      refine j_aload_n B dX10_same_58 rfl 0 rfl ?_
      refine j_iload_n B dX10_same_59 rfl 2 rfl ?_
      refine j_iload B dX10_same_60 3 rfl ?_
      obtain ⟨r6, hr6, h⟩ := h_bind h
      refine j_cVI (rest := [.int r5]) B (tX10_whomAt hW hr6) cls10 (wf_65 hW) jt_RX10_352 wi_X10_whomAt ws_X10_whomAt rfl (by decide) (Nat.le_refl _) (Nat.le_refl _) rfl (Nat.le_of_ble_eq_true rfl) dX10_same_62 ?_
      refine j_icmp_eq (tgt := 70) B dX10_same_65 (by decide) (fun c => ?_) (fun c => ?_)
      · replace h := h_pos c h
        refine j_iinc (v := (x4 + 1)) (L' := [(4, .int (x4 + 1)), (0, .ref (G.1 + 63)), (2, .int x2), (3, .int x3)]) B dX10_same_70 3 rfl rfl (by decide) rfl ?_
        refine j_goto (tgt := 40) B dX10_same_73 (by decide) ?_
        refine j_locals [1, 2, 3, 0] rfl ?_
        exact ih (x2) (x3) ((x4 + 1))  h
      · replace h := h_neg c h
        refine j_iconst B dX10_same_68 (v := 0) (by decide) ?_
        have e1 := Option.some.inj h
        subst e1
        exact j_iret B E rfl dX10_same_69 (Nat.le_refl _) (Nat.le_refl _) ⟨rfl, rfl, rfl, rfl⟩
def fX10_same (x1 : Int32) (vi0 : VI) : Option (Int32) := (fX10_areSills x1 vi0).bind fun r1 => if r1 = true then if inb (x1 / 10) 5 = true then if inb (x1 - x1 / 10 * 10) 5 = true then if (vi0 67 (x1 / 10).toNatClampNeg) = (vi0 67 (x1 - x1 / 10 * 10).toNatClampNeg) then fX10_same_40 vi0 FU (x1 / 10) (x1 - x1 / 10 * 10) 0 else some (0) else none else none else some ((-1))
theorem tX10_same {G : GT} {sv : SV} {vi0 : VI} {vl0 : VL} {ns : Nat} {x1 : Int32} {r : Int32} (hW : WF sv ns) (h : fX10_same x1 vi0 = some (r)) : Call G mX10_same 3 0 0 [.ref (G.1 + 63), .int x1] sv vi0 vl0 (QI r sv vi0 vl0) := by
  refine j_mk (by decide +kernel) (Nat.le_of_ble_eq_true rfl) (fun Γ B E => ?_)
  show J G Γ 0 0 0 [(0, .ref (G.1 + 63)), (1, .int x1)] [] sv vi0 vl0
  unfold fX10_same at h
  refine j_aload_n B dX10_same_0 rfl 0 rfl ?_
  refine j_iload_n B dX10_same_1 rfl 1 rfl ?_
  obtain ⟨r1, hr1, h⟩ := h_bind h
  refine j_cVI (rest := []) B (tX10_areSills hW hr1) cls10 (wf_65 hW) jt_RX10_355 wi_X10_areSills ws_X10_areSills rfl (by decide) (Nat.le_refl _) (Nat.le_refl _) rfl (Nat.le_of_ble_eq_true rfl) dX10_same_2 ?_
  refine j_if_ne (tgt := 10) B dX10_same_5 (by decide) (fun c => ?_) (fun c => ?_)
  · replace h := h_pos (b2i_1 c) h
    refine j_iload_n B dX10_same_10 rfl 1 rfl ?_
    refine j_bipush B dX10_same_11 (v := 10) (by decide) ?_
    refine j_idiv B dX10_same_13 (by decide) ?_
    refine j_istore_n (L' := [(2, .int (x1 / 10)), (0, .ref (G.1 + 63)), (1, .int x1)]) B dX10_same_14 rfl (by decide) rfl ?_
    refine j_iload_n B dX10_same_15 rfl 2 rfl ?_
    refine j_bipush B dX10_same_16 (v := 10) (by decide) ?_
    refine j_irem B dX10_same_18 (by decide) ?_
    refine j_istore_n (L' := [(3, .int (x1 - x1 / 10 * 10)), (2, .int (x1 / 10)), (0, .ref (G.1 + 63)), (1, .int x1)]) B dX10_same_19 rfl (by decide) rfl ?_
    refine j_aload_n B dX10_same_20 rfl 2 rfl ?_
    refine gf_RX10_21 B rfl (wf_65 hW) (wf_165 hW) dX10_same_21 ?_
    refine j_iload_n B dX10_same_24 rfl 1 rfl ?_
    obtain ⟨b2, h⟩ := h_inb h
    refine j_iald B ((wf_69 hW)) b2 dX10_same_25 ?_
    refine j_aload_n B dX10_same_26 rfl 2 rfl ?_
    refine gf_RX10_21 B rfl (wf_65 hW) (wf_165 hW) dX10_same_27 ?_
    refine j_iload_n B dX10_same_30 rfl 0 rfl ?_
    obtain ⟨b3, h⟩ := h_inb h
    refine j_iald B ((wf_69 hW)) b3 dX10_same_31 ?_
    refine j_icmp_eq (tgt := 37) B dX10_same_32 (by decide) (fun c => ?_) (fun c => ?_)
    · replace h := h_pos c h
      refine j_iconst B dX10_same_37 (v := 0) (by decide) ?_
      refine j_istore (L' := [(4, .int 0), (3, .int (x1 - x1 / 10 * 10)), (2, .int (x1 / 10)), (0, .ref (G.1 + 63)), (1, .int x1)]) B dX10_same_38 (by decide) rfl ?_
      refine j_locals [3, 2, 1, 0] rfl ?_
      exact tX10_same_40 B E hW FU ((x1 / 10)) ((x1 - x1 / 10 * 10)) (0)  h
    · replace h := h_neg c h
      refine j_iconst B dX10_same_35 (v := 0) (by decide) ?_
      have e1 := Option.some.inj h
      subst e1
      exact j_iret B E rfl dX10_same_36 (Nat.le_refl _) (Nat.le_refl _) ⟨rfl, rfl, rfl, rfl⟩
  · replace h := h_neg (b2i_0 c) h
    refine j_iconst B dX10_same_8 (v := (-1)) (by decide) ?_
    have e1 := Option.some.inj h
    subst e1
    exact j_iret B E rfl dX10_same_9 (Nat.le_refl _) (Nat.le_refl _) ⟨rfl, rfl, rfl, rfl⟩
def fX10_weightOf_74 (vi0 : VI) (k5 : Int32 → Int64 → Int32 → Option (Int64)) (k17 : Int32 → Int64 → Int32 → Int32 → Option (Int64)) (x1 : Int32) (x2 : Int64) (x4 : Int32) (x5 : Int32) : Option (Int64) := k17 x1 x2 x4 (x5 + 1)
theorem tX10_weightOf_74 {G : GT} {sv : SV} {vi0 : VI} {vl0 : VL} {ns : Nat} {Γ : CT} {r : Int64} {k5 : Int32 → Int64 → Int32 → Option (Int64)} {k17 : Int32 → Int64 → Int32 → Int32 → Option (Int64)} (B : Base G Γ mX10_weightOf 1 0 0) (E : Ends G Γ 0 0 (QJ r sv vi0 vl0)) (hW : WF sv ns) (hk5 : ∀ (x1 : Int32) (x2 : Int64) (x4 : Int32), k5 x1 x2 x4 = some (r) → J G Γ 0 0 5 [(0, .ref (G.1 + 63)), (1, .int x1), (2, .long x2), (4, .int x4)] [] sv vi0 vl0) (hk17 : ∀ (x1 : Int32) (x2 : Int64) (x4 : Int32) (x5 : Int32), k17 x1 x2 x4 x5 = some (r) → J G Γ 0 0 17 [(0, .ref (G.1 + 63)), (1, .int x1), (2, .long x2), (4, .int x4), (5, .int x5)] [] sv vi0 vl0) : ∀ (x1 : Int32) (x2 : Int64) (x4 : Int32) (x5 : Int32), fX10_weightOf_74 vi0 k5 k17 x1 x2 x4 x5 = some (r) → J G Γ 0 0 74 [(0, .ref (G.1 + 63)), (1, .int x1), (2, .long x2), (4, .int x4), (5, .int x5)] [] sv vi0 vl0 := by
  intro x1 x2 x4 x5  h
  unfold fX10_weightOf_74 at h
  refine j_iinc (v := (x5 + 1)) (L' := [(5, .int (x5 + 1)), (0, .ref (G.1 + 63)), (1, .int x1), (2, .long x2), (4, .int x4)]) B dX10_weightOf_74 4 rfl rfl (by decide) rfl ?_
  refine j_goto (tgt := 17) B dX10_weightOf_77 (by decide) ?_
  refine j_locals [1, 2, 3, 4, 0] rfl ?_
  exact hk17 (x1) (x2) (x4) ((x5 + 1))  h
def fX10_weightOf_17 (vi0 : VI) (k5 : Int32 → Int64 → Int32 → Option (Int64)) : Nat → Int32 → Int64 → Int32 → Int32 → Option (Int64)
  | 0, _, _, _, _ => none
  | F + 1, x1, x2, x4, x5 => if inb x4 5 = true then if (vi0 67 x4.toNatClampNeg) ≤ x5 then k5 x1 x2 (x4 + 1) else (fX10_whomAt x4 x5 vi0).bind fun r2 => if r2 = x1 then if inb ((12 * x4) + x5) 60 = true then if inb x4 5 = true then fX10_weightOf_74 vi0 k5 (fX10_weightOf_17 vi0 k5 F) x1 (x2 + ((vi0 69 ((12 * x4) + x5).toNatClampNeg) * (13 - (((vi0 67 x4.toNatClampNeg) - 1) - x5))).toInt64) x4 x5 else none else none else fX10_weightOf_74 vi0 k5 (fX10_weightOf_17 vi0 k5 F) x1 x2 x4 x5 else none
theorem tX10_weightOf_17 {G : GT} {sv : SV} {vi0 : VI} {vl0 : VL} {ns : Nat} {Γ : CT} {r : Int64} {k5 : Int32 → Int64 → Int32 → Option (Int64)} (B : Base G Γ mX10_weightOf 1 0 0) (E : Ends G Γ 0 0 (QJ r sv vi0 vl0)) (hW : WF sv ns) (hk5 : ∀ (x1 : Int32) (x2 : Int64) (x4 : Int32), k5 x1 x2 x4 = some (r) → J G Γ 0 0 5 [(0, .ref (G.1 + 63)), (1, .int x1), (2, .long x2), (4, .int x4)] [] sv vi0 vl0) : ∀ (F : Nat) (x1 : Int32) (x2 : Int64) (x4 : Int32) (x5 : Int32), fX10_weightOf_17 vi0 k5 F x1 x2 x4 x5 = some (r) → J G Γ 0 0 17 [(0, .ref (G.1 + 63)), (1, .int x1), (2, .long x2), (4, .int x4), (5, .int x5)] [] sv vi0 vl0 := by
  intro F
  induction F with
  | zero =>
    intro x1 x2 x4 x5  h
    cases (show (none : Option (Int64)) = some (r) from h)
  | succ F ih =>
    intro x1 x2 x4 x5  h
    rw [fX10_weightOf_17] at h
    refine j_iload B dX10_weightOf_17 4 rfl ?_
    refine j_aload_n B dX10_weightOf_19 rfl 0 rfl ?_
    refine gf_RX10_21 B rfl (wf_65 hW) (wf_165 hW) dX10_weightOf_20 ?_
    refine j_iload B dX10_weightOf_23 3 rfl ?_
    obtain ⟨b1, h⟩ := h_inb h
    refine j_iald B ((wf_69 hW)) b1 dX10_weightOf_25 ?_
    refine j_icmp_ge (tgt := 80) B dX10_weightOf_26 (by decide) (fun c => ?_) (fun c => ?_)
    · replace h := h_pos c h
      refine j_iinc (v := (x4 + 1)) (L' := [(4, .int (x4 + 1)), (0, .ref (G.1 + 63)), (1, .int x1), (2, .long x2), (5, .int x5)]) B dX10_weightOf_80 3 rfl rfl (by decide) rfl ?_
      refine j_goto (tgt := 5) B dX10_weightOf_83 (by decide) ?_
      refine j_locals [1, 2, 3, 0] rfl ?_
      exact hk5 (x1) (x2) ((x4 + 1))  h
    · replace h := h_neg c h
      refine j_aload_n B dX10_weightOf_29 rfl 0 rfl ?_
      refine j_iload B dX10_weightOf_30 3 rfl ?_
      refine j_iload B dX10_weightOf_32 4 rfl ?_
      obtain ⟨r2, hr2, h⟩ := h_bind h
      refine j_cVI (rest := []) B (tX10_whomAt hW hr2) cls10 (wf_65 hW) jt_RX10_352 wi_X10_whomAt ws_X10_whomAt rfl (by decide) (Nat.le_refl _) (Nat.le_refl _) rfl (Nat.le_of_ble_eq_true rfl) dX10_weightOf_34 ?_
      refine j_iload_n B dX10_weightOf_37 rfl 1 rfl ?_
      refine j_icmp_ne (tgt := 74) B dX10_weightOf_38 (by decide) (fun c => ?_) (fun c => ?_)
      · replace h := h_neg c h
        refine j_locals [0, 1, 2, 3, 4] rfl ?_
        exact tX10_weightOf_74 B E hW hk5 ih (x1) (x2) (x4) (x5)  h
      · replace h := h_pos c h
        refine j_lload_n B dX10_weightOf_41 rfl 2 rfl ?_
        refine j_aload_n B dX10_weightOf_42 rfl 0 rfl ?_
        refine gf_RX10_27 B rfl (wf_65 hW) (wf_167 hW) dX10_weightOf_43 ?_
        refine j_bipush B dX10_weightOf_46 (v := 12) (by decide) ?_
        refine j_iload B dX10_weightOf_48 3 rfl ?_
        refine j_imul B dX10_weightOf_50 ?_
        refine j_iload B dX10_weightOf_51 4 rfl ?_
        refine j_iadd B dX10_weightOf_53 ?_
        obtain ⟨b3, h⟩ := h_inb h
        refine j_iald B ((wf_71 hW)) b3 dX10_weightOf_54 ?_
        refine j_bipush B dX10_weightOf_55 (v := 13) (by decide) ?_
        refine j_aload_n B dX10_weightOf_57 rfl 0 rfl ?_
        refine gf_RX10_21 B rfl (wf_65 hW) (wf_165 hW) dX10_weightOf_58 ?_
        refine j_iload B dX10_weightOf_61 3 rfl ?_
        obtain ⟨b4, h⟩ := h_inb h
        refine j_iald B ((wf_69 hW)) b4 dX10_weightOf_63 ?_
        refine j_iconst B dX10_weightOf_64 (v := 1) (by decide) ?_
        refine j_isub B dX10_weightOf_65 ?_
        refine j_iload B dX10_weightOf_66 4 rfl ?_
        refine j_isub B dX10_weightOf_68 ?_
        refine j_isub B dX10_weightOf_69 ?_
        refine j_imul B dX10_weightOf_70 ?_
        refine j_i2l B dX10_weightOf_71 ?_
        refine j_ladd B dX10_weightOf_72 ?_
        refine j_lstore_n (L' := [(2, .long (x2 + ((vi0 69 ((12 * x4) + x5).toNatClampNeg) * (13 - (((vi0 67 x4.toNatClampNeg) - 1) - x5))).toInt64)), (0, .ref (G.1 + 63)), (1, .int x1), (4, .int x4), (5, .int x5)]) B dX10_weightOf_73 rfl (by decide) rfl ?_
        refine j_locals [1, 2, 0, 3, 4] rfl ?_
        exact tX10_weightOf_74 B E hW hk5 ih (x1) ((x2 + ((vi0 69 ((12 * x4) + x5).toNatClampNeg) * (13 - (((vi0 67 x4.toNatClampNeg) - 1) - x5))).toInt64)) (x4) (x5)  h
def fX10_weightOf_5 (vi0 : VI) : Nat → Int32 → Int64 → Int32 → Option (Int64)
  | 0, _, _, _ => none
  | F + 1, x1, x2, x4 => if (vi0 63 1) ≤ x4 then some (x2) else fX10_weightOf_17 vi0 (fX10_weightOf_5 vi0 F) FU x1 x2 x4 0
theorem tX10_weightOf_5 {G : GT} {sv : SV} {vi0 : VI} {vl0 : VL} {ns : Nat} {Γ : CT} {r : Int64} (B : Base G Γ mX10_weightOf 1 0 0) (E : Ends G Γ 0 0 (QJ r sv vi0 vl0)) (hW : WF sv ns) : ∀ (F : Nat) (x1 : Int32) (x2 : Int64) (x4 : Int32), fX10_weightOf_5 vi0 F x1 x2 x4 = some (r) → J G Γ 0 0 5 [(0, .ref (G.1 + 63)), (1, .int x1), (2, .long x2), (4, .int x4)] [] sv vi0 vl0 := by
  intro F
  induction F with
  | zero =>
    intro x1 x2 x4  h
    cases (show (none : Option (Int64)) = some (r) from h)
  | succ F ih =>
    intro x1 x2 x4  h
    rw [fX10_weightOf_5] at h
    refine j_iload B dX10_weightOf_5 3 rfl ?_
    refine j_aload_n B dX10_weightOf_7 rfl 0 rfl ?_
    refine gf_RX10_121 B rfl (wf_65 hW) dX10_weightOf_8 ?_
    refine j_icmp_ge (tgt := 86) B dX10_weightOf_11 (by decide) (fun c => ?_) (fun c => ?_)
    · replace h := h_pos c h
      refine j_lload_n B dX10_weightOf_86 rfl 2 rfl ?_
      have e1 := Option.some.inj h
      subst e1
      exact j_lret B E rfl dX10_weightOf_87 (Nat.le_refl _) (Nat.le_refl _) ⟨rfl, rfl, rfl, rfl⟩
    · replace h := h_neg c h
      refine j_iconst B dX10_weightOf_14 (v := 0) (by decide) ?_
      refine j_istore (L' := [(5, .int 0), (0, .ref (G.1 + 63)), (1, .int x1), (2, .long x2), (4, .int x4)]) B dX10_weightOf_15 (by decide) rfl ?_
      refine j_locals [1, 2, 3, 4, 0] rfl ?_
      exact tX10_weightOf_17 B E hW ih FU (x1) (x2) (x4) (0)  h
def fX10_weightOf (x1 : Int32) (vi0 : VI) : Option (Int64) := fX10_weightOf_5 vi0 FU x1 0 0
theorem tX10_weightOf {G : GT} {sv : SV} {vi0 : VI} {vl0 : VL} {ns : Nat} {x1 : Int32} {r : Int64} (hW : WF sv ns) (h : fX10_weightOf x1 vi0 = some (r)) : Call G mX10_weightOf 1 0 0 [.ref (G.1 + 63), .int x1] sv vi0 vl0 (QJ r sv vi0 vl0) := by
  refine j_mk (by decide +kernel) (Nat.le_of_ble_eq_true rfl) (fun Γ B E => ?_)
  show J G Γ 0 0 0 [(0, .ref (G.1 + 63)), (1, .int x1)] [] sv vi0 vl0
  unfold fX10_weightOf at h
  refine j_lconst B dX10_weightOf_0 (v := 0) rfl ?_
  refine j_lstore_n (L' := [(2, .long 0), (0, .ref (G.1 + 63)), (1, .int x1)]) B dX10_weightOf_1 rfl (by decide) rfl ?_
  refine j_iconst B dX10_weightOf_2 (v := 0) (by decide) ?_
  refine j_istore (L' := [(4, .int 0), (2, .long 0), (0, .ref (G.1 + 63)), (1, .int x1)]) B dX10_weightOf_3 (by decide) rfl ?_
  refine j_locals [2, 3, 1, 0] rfl ?_
  exact tX10_weightOf_5 B E hW FU (x1) (0) (0)  h
def fX10_lowest_16  : Nat → Int64 → Int64 → Int32 → Int64 → Int64 → Option (Int64)
  | 0, _, _, _, _, _ => none
  | F + 1, x0, x2, x4, x5, x7 => if (lg_cmp x7 0) = 0 then if x4 = 0 then if x5 = 0 then none else some ((x0 / x5)) else if x5 = 0 then none else some ((x2 / x5)) else if x7 = 0 then none else fX10_lowest_16  F x0 x2 x4 x7 (x5 - x5 / x7 * x7)
theorem tX10_lowest_16 {G : GT} {sv : SV} {vi0 : VI} {vl0 : VL} {Γ : CT} {r : Int64} (B : Base G Γ mX10_lowest 0 0 0) (E : Ends G Γ 0 0 (QJ r sv vi0 vl0)) : ∀ (F : Nat) (x0 : Int64) (x2 : Int64) (x4 : Int32) (x5 : Int64) (x7 : Int64), fX10_lowest_16  F x0 x2 x4 x5 x7 = some (r) → J G Γ 0 0 16 [(0, .long x0), (2, .long x2), (4, .int x4), (5, .long x5), (7, .long x7)] [] sv vi0 vl0 := by
  intro F
  induction F with
  | zero =>
    intro x0 x2 x4 x5 x7  h
    cases (show (none : Option (Int64)) = some (r) from h)
  | succ F ih =>
    intro x0 x2 x4 x5 x7  h
    rw [fX10_lowest_16] at h
    refine j_lload B dX10_lowest_16 4 rfl ?_
    refine j_lconst B dX10_lowest_18 (v := 0) rfl ?_
    refine j_lcmp B dX10_lowest_19 ?_
    refine j_if_eq (tgt := 41) B dX10_lowest_20 (by decide) (fun c => ?_) (fun c => ?_)
    · replace h := h_pos c h
      refine j_iload B dX10_lowest_41 2 rfl ?_
      refine j_if_ne (tgt := 53) B dX10_lowest_43 (by decide) (fun c => ?_) (fun c => ?_)
      · replace h := h_neg c h
        refine j_lload_n B dX10_lowest_53 rfl 1 rfl ?_
        refine j_lload B dX10_lowest_54 3 rfl ?_
        obtain ⟨b1, h⟩ := h_nz h
        refine j_ldiv B dX10_lowest_56 b1 ?_
        have e1 := Option.some.inj h
        subst e1
        exact j_lret B E rfl dX10_lowest_57 (Nat.le_refl _) (Nat.le_refl _) ⟨rfl, rfl, rfl, rfl⟩
      · replace h := h_pos c h
        refine j_lload_n B dX10_lowest_46 rfl 0 rfl ?_
        refine j_lload B dX10_lowest_47 3 rfl ?_
        obtain ⟨b2, h⟩ := h_nz h
        refine j_ldiv B dX10_lowest_49 b2 ?_
        refine j_goto (tgt := 57) B dX10_lowest_50 (by decide) ?_
        have e1 := Option.some.inj h
        subst e1
        exact j_lret B E rfl dX10_lowest_57 (Nat.le_refl _) (Nat.le_refl _) ⟨rfl, rfl, rfl, rfl⟩
    · replace h := h_neg c h
      refine j_lload B dX10_lowest_23 3 rfl ?_
      refine j_lload B dX10_lowest_25 4 rfl ?_
      obtain ⟨b3, h⟩ := h_nz h
      refine j_lrem B dX10_lowest_27 b3 ?_
      refine j_lstore (L' := [(9, .long (x5 - x5 / x7 * x7)), (0, .long x0), (2, .long x2), (4, .int x4), (5, .long x5), (7, .long x7)]) B dX10_lowest_28 (by decide) rfl ?_
      refine j_lload B dX10_lowest_30 5 rfl ?_
      refine j_lstore (L' := [(5, .long x7), (9, .long (x5 - x5 / x7 * x7)), (0, .long x0), (2, .long x2), (4, .int x4), (7, .long x7)]) B dX10_lowest_32 (by decide) rfl ?_
      refine j_lload B dX10_lowest_34 1 rfl ?_
      refine j_lstore (L' := [(7, .long (x5 - x5 / x7 * x7)), (5, .long x7), (9, .long (x5 - x5 / x7 * x7)), (0, .long x0), (2, .long x2), (4, .int x4)]) B dX10_lowest_36 (by decide) rfl ?_
      refine j_goto (tgt := 16) B dX10_lowest_38 (by decide) ?_
      refine j_locals [3, 4, 5, 1, 0] rfl ?_
      exact ih (x0) (x2) (x4) (x7) ((x5 - x5 / x7 * x7))  h
def fX10_lowest (x0 : Int64) (x2 : Int64) (x4 : Int32)  : Option (Int64) := if (lg_cmp x0 0) = 0 then some (x4.toInt64) else fX10_lowest_16  FU x0 x2 x4 x0 x2
theorem tX10_lowest {G : GT} {sv : SV} {vi0 : VI} {vl0 : VL} {x0 : Int64} {x2 : Int64} {x4 : Int32} {r : Int64} (h : fX10_lowest x0 x2 x4 = some (r)) : Call G mX10_lowest 0 0 0 [.long x0, .long x2, .int x4] sv vi0 vl0 (QJ r sv vi0 vl0) := by
  refine j_mk (by decide +kernel) (Nat.le_of_ble_eq_true rfl) (fun Γ B E => ?_)
  show J G Γ 0 0 0 [(0, .long x0), (2, .long x2), (4, .int x4)] [] sv vi0 vl0
  unfold fX10_lowest at h
  refine j_lload_n B dX10_lowest_0 rfl 0 rfl ?_
  refine j_lconst B dX10_lowest_1 (v := 0) rfl ?_
  refine j_lcmp B dX10_lowest_2 ?_
  refine j_if_ne (tgt := 10) B dX10_lowest_3 (by decide) (fun c => ?_) (fun c => ?_)
  · replace h := h_neg c h
    refine j_lload_n B dX10_lowest_10 rfl 0 rfl ?_
    refine j_lstore (L' := [(5, .long x0), (0, .long x0), (2, .long x2), (4, .int x4)]) B dX10_lowest_11 (by decide) rfl ?_
    refine j_lload_n B dX10_lowest_13 rfl 2 rfl ?_
    refine j_lstore (L' := [(7, .long x2), (5, .long x0), (0, .long x0), (2, .long x2), (4, .int x4)]) B dX10_lowest_14 (by decide) rfl ?_
    refine j_locals [2, 3, 4, 1, 0] rfl ?_
    exact tX10_lowest_16 B E  FU (x0) (x2) (x4) (x0) (x2)  h
  · replace h := h_pos c h
    refine j_iload B dX10_lowest_6 2 rfl ?_
    refine j_i2l B dX10_lowest_8 ?_
    have e1 := Option.some.inj h
    subst e1
    exact j_lret B E rfl dX10_lowest_9 (Nat.le_refl _) (Nat.le_refl _) ⟨rfl, rfl, rfl, rfl⟩
def fX10_likely_25 (vi0 : VI) : Nat → Int32 → Int32 → Int64 → Int32 → Option (Int64)
  | 0, _, _, _, _ => none
  | F + 1, x1, x2, x3, x5 => if 6 ≤ x5 then (fX10_weightOf x1 vi0).bind fun r3 => (fX10_lowest r3 x3 x2).bind fun r4 => some (r4) else (fX10_weightOf x5 vi0).bind fun r5 => fX10_likely_25 vi0 F x1 x2 (x3 + r5) (x5 + 1)
theorem tX10_likely_25 {G : GT} {sv : SV} {vi0 : VI} {vl0 : VL} {ns : Nat} {Γ : CT} {r : Int64} (B : Base G Γ mX10_likely 2 0 0) (E : Ends G Γ 0 0 (QJ r sv vi0 vl0)) (hW : WF sv ns) : ∀ (F : Nat) (x1 : Int32) (x2 : Int32) (x3 : Int64) (x5 : Int32), fX10_likely_25 vi0 F x1 x2 x3 x5 = some (r) → J G Γ 0 0 25 [(0, .ref (G.1 + 63)), (1, .int x1), (2, .int x2), (3, .long x3), (5, .int x5)] [] sv vi0 vl0 := by
  intro F
  induction F with
  | zero =>
    intro x1 x2 x3 x5  h
    cases (show (none : Option (Int64)) = some (r) from h)
  | succ F ih =>
    intro x1 x2 x3 x5  h
    rw [fX10_likely_25] at h
    refine j_iload B dX10_likely_25 4 rfl ?_
    refine j_bipush B dX10_likely_27 (v := 6) (by decide) ?_
    refine j_icmp_ge (tgt := 47) B dX10_likely_29 (by decide) (fun c => ?_) (fun c => ?_)
    · replace h := h_pos c h
      refine j_aload_n B dX10_likely_47 rfl 0 rfl ?_
      refine j_iload_n B dX10_likely_48 rfl 1 rfl ?_
      obtain ⟨r3, hr3, h⟩ := h_bind h
      refine j_cVJ (rest := []) B (tX10_weightOf hW hr3) cls10 (wf_65 hW) jt_RX10_364 wi_X10_weightOf ws_X10_weightOf rfl (by decide) (Nat.le_refl _) (Nat.le_refl _) rfl (Nat.le_of_ble_eq_true rfl) dX10_likely_49 ?_
      refine j_lload_n B dX10_likely_52 rfl 3 rfl ?_
      refine j_iload_n B dX10_likely_53 rfl 2 rfl ?_
      obtain ⟨r4, hr4, h⟩ := h_bind h
      refine j_cSJ (rest := []) B (tX10_lowest hr4) jt_RX10_368 wst_X10_lowest rfl (by decide) (Nat.le_refl _) (Nat.le_refl _) rfl (Nat.le_of_ble_eq_true rfl) dX10_likely_54 ?_
      have e1 := Option.some.inj h
      subst e1
      exact j_lret B E rfl dX10_likely_57 (Nat.le_refl _) (Nat.le_refl _) ⟨rfl, rfl, rfl, rfl⟩
    · replace h := h_neg c h
      refine j_lload_n B dX10_likely_32 rfl 3 rfl ?_
      refine j_aload_n B dX10_likely_33 rfl 0 rfl ?_
      refine j_iload B dX10_likely_34 4 rfl ?_
      obtain ⟨r5, hr5, h⟩ := h_bind h
      refine j_cVJ (rest := [.long x3]) B (tX10_weightOf hW hr5) cls10 (wf_65 hW) jt_RX10_364 wi_X10_weightOf ws_X10_weightOf rfl (by decide) (Nat.le_refl _) (Nat.le_refl _) rfl (Nat.le_of_ble_eq_true rfl) dX10_likely_36 ?_
      refine j_ladd B dX10_likely_39 ?_
      refine j_lstore_n (L' := [(3, .long (x3 + r5)), (0, .ref (G.1 + 63)), (1, .int x1), (2, .int x2), (5, .int x5)]) B dX10_likely_40 rfl (by decide) rfl ?_
      refine j_iinc (v := (x5 + 1)) (L' := [(5, .int (x5 + 1)), (3, .long (x3 + r5)), (0, .ref (G.1 + 63)), (1, .int x1), (2, .int x2)]) B dX10_likely_41 4 rfl rfl (by decide) rfl ?_
      refine j_goto (tgt := 25) B dX10_likely_44 (by decide) ?_
      refine j_locals [2, 3, 4, 1, 0] rfl ?_
      exact ih (x1) (x2) ((x3 + r5)) ((x5 + 1))  h
def fX10_likely (x1 : Int32) (x2 : Int32) (vi0 : VI) : Option (Int64) := (fX10_isPerson x1).bind fun r1 => if r1 = true then (fX10_in x2 0 1).bind fun r2 => if r2 = true then fX10_likely_25 vi0 FU x1 x2 0 0 else some ((-9223372036854775808)) else some ((-9223372036854775808))
theorem tX10_likely {G : GT} {sv : SV} {vi0 : VI} {vl0 : VL} {ns : Nat} {x1 : Int32} {x2 : Int32} {r : Int64} (hW : WF sv ns) (h : fX10_likely x1 x2 vi0 = some (r)) : Call G mX10_likely 2 0 0 [.ref (G.1 + 63), .int x1, .int x2] sv vi0 vl0 (QJ r sv vi0 vl0) := by
  refine j_mk (by decide +kernel) (Nat.le_of_ble_eq_true rfl) (fun Γ B E => ?_)
  show J G Γ 0 0 0 [(0, .ref (G.1 + 63)), (1, .int x1), (2, .int x2)] [] sv vi0 vl0
  unfold fX10_likely at h
  refine j_iload_n B dX10_likely_0 rfl 1 rfl ?_
  obtain ⟨r1, hr1, h⟩ := h_bind h
  refine j_cSI (rest := []) B (tX10_isPerson hr1) jt_RX10_155 wst_X10_isPerson rfl (by decide) (Nat.le_refl _) (Nat.le_refl _) rfl (Nat.le_of_ble_eq_true rfl) dX10_likely_1 ?_
  refine j_if_eq (tgt := 16) B dX10_likely_4 (by decide) (fun c => ?_) (fun c => ?_)
  · replace h := h_neg (b2i_0 c) h
    refine j_ldc2 B wk_RX10_350 dX10_likely_16 ?_
    have e1 := Option.some.inj h
    subst e1
    exact j_lret B E rfl dX10_likely_19 (Nat.le_refl _) (Nat.le_refl _) ⟨rfl, rfl, rfl, rfl⟩
  · replace h := h_pos (b2i_1 c) h
    refine j_iload_n B dX10_likely_7 rfl 2 rfl ?_
    refine j_iconst B dX10_likely_8 (v := 0) (by decide) ?_
    refine j_iconst B dX10_likely_9 (v := 1) (by decide) ?_
    obtain ⟨r2, hr2, h⟩ := h_bind h
    refine j_cSI (rest := []) B (tX10_in hr2) jt_RX10_124 wst_X10_in rfl (by decide) (Nat.le_refl _) (Nat.le_refl _) rfl (Nat.le_of_ble_eq_true rfl) dX10_likely_10 ?_
    refine j_if_ne (tgt := 20) B dX10_likely_13 (by decide) (fun c => ?_) (fun c => ?_)
    · replace h := h_pos (b2i_1 c) h
      refine j_lconst B dX10_likely_20 (v := 0) rfl ?_
      refine j_lstore_n (L' := [(3, .long 0), (0, .ref (G.1 + 63)), (1, .int x1), (2, .int x2)]) B dX10_likely_21 rfl (by decide) rfl ?_
      refine j_iconst B dX10_likely_22 (v := 0) (by decide) ?_
      refine j_istore (L' := [(5, .int 0), (3, .long 0), (0, .ref (G.1 + 63)), (1, .int x1), (2, .int x2)]) B dX10_likely_23 (by decide) rfl ?_
      refine j_locals [2, 3, 4, 1, 0] rfl ?_
      exact tX10_likely_25 B E hW FU (x1) (x2) (0) (0)  h
    · replace h := h_neg (b2i_0 c) h
      refine j_ldc2 B wk_RX10_350 dX10_likely_16 ?_
      have e1 := Option.some.inj h
      subst e1
      exact j_lret B E rfl dX10_likely_19 (Nat.le_refl _) (Nat.le_refl _) ⟨rfl, rfl, rfl, rfl⟩
def fX10_expected_41 (vi0 : VI) (k5 : Int32 → Int32 → Option (Int32)) (x1 : Int32) (x2 : Int32) : Option (Int32) := k5 x1 (x2 + 1)
theorem tX10_expected_41 {G : GT} {sv : SV} {vi0 : VI} {vl0 : VL} {ns : Nat} {Γ : CT} {r : Int32} {k5 : Int32 → Int32 → Option (Int32)} (B : Base G Γ mX10_expected 2 0 0) (E : Ends G Γ 0 0 (QI r sv vi0 vl0)) (hW : WF sv ns) (hk5 : ∀ (x1 : Int32) (x2 : Int32), k5 x1 x2 = some (r) → J G Γ 0 0 5 [(0, .ref (G.1 + 63)), (1, .int x1), (2, .int x2)] [] sv vi0 vl0) : ∀ (x1 : Int32) (x2 : Int32), fX10_expected_41 vi0 k5 x1 x2 = some (r) → J G Γ 0 0 41 [(0, .ref (G.1 + 63)), (1, .int x1), (2, .int x2)] [] sv vi0 vl0 := by
  intro x1 x2  h
  unfold fX10_expected_41 at h
  refine j_iinc (v := (x2 + 1)) (L' := [(2, .int (x2 + 1)), (0, .ref (G.1 + 63)), (1, .int x1)]) B dX10_expected_41 2 rfl rfl (by decide) rfl ?_
  refine j_goto (tgt := 5) B dX10_expected_44 (by decide) ?_
  refine j_locals [1, 2, 0] rfl ?_
  exact hk5 (x1) ((x2 + 1))  h
def fX10_expected_39 (vi0 : VI) (k5 : Int32 → Int32 → Option (Int32)) (x2 : Int32) : Option (Int32) := fX10_expected_41 vi0 k5 x2 x2
theorem tX10_expected_39 {G : GT} {sv : SV} {vi0 : VI} {vl0 : VL} {ns : Nat} {Γ : CT} {r : Int32} {k5 : Int32 → Int32 → Option (Int32)} (B : Base G Γ mX10_expected 2 0 0) (E : Ends G Γ 0 0 (QI r sv vi0 vl0)) (hW : WF sv ns) (hk5 : ∀ (x1 : Int32) (x2 : Int32), k5 x1 x2 = some (r) → J G Γ 0 0 5 [(0, .ref (G.1 + 63)), (1, .int x1), (2, .int x2)] [] sv vi0 vl0) : ∀ (x2 : Int32), fX10_expected_39 vi0 k5 x2 = some (r) → J G Γ 0 0 39 [(0, .ref (G.1 + 63)), (2, .int x2)] [] sv vi0 vl0 := by
  intro x2  h
  unfold fX10_expected_39 at h
  refine j_iload_n B dX10_expected_39 rfl 1 rfl ?_
  refine j_istore_n (L' := [(1, .int x2), (0, .ref (G.1 + 63)), (2, .int x2)]) B dX10_expected_40 rfl (by decide) rfl ?_
  refine j_locals [1, 0, 2] rfl ?_
  exact tX10_expected_41 B E hW hk5 (x2) (x2)  h
def fX10_expected_5 (vi0 : VI) : Nat → Int32 → Int32 → Option (Int32)
  | 0, _, _ => none
  | F + 1, x1, x2 => if 6 ≤ x2 then some (x1) else (fX10_weightOf x2 vi0).bind fun r1 => if (lg_cmp r1 0) ≤ 0 then fX10_expected_41 vi0 (fX10_expected_5 vi0 F) x1 x2 else if x1 < 0 then fX10_expected_39 vi0 (fX10_expected_5 vi0 F) x2 else (fX10_weightOf x2 vi0).bind fun r2 => (fX10_weightOf x1 vi0).bind fun r3 => if (lg_cmp r2 r3) ≤ 0 then fX10_expected_41 vi0 (fX10_expected_5 vi0 F) x1 x2 else fX10_expected_39 vi0 (fX10_expected_5 vi0 F) x2
theorem tX10_expected_5 {G : GT} {sv : SV} {vi0 : VI} {vl0 : VL} {ns : Nat} {Γ : CT} {r : Int32} (B : Base G Γ mX10_expected 2 0 0) (E : Ends G Γ 0 0 (QI r sv vi0 vl0)) (hW : WF sv ns) : ∀ (F : Nat) (x1 : Int32) (x2 : Int32), fX10_expected_5 vi0 F x1 x2 = some (r) → J G Γ 0 0 5 [(0, .ref (G.1 + 63)), (1, .int x1), (2, .int x2)] [] sv vi0 vl0 := by
  intro F
  induction F with
  | zero =>
    intro x1 x2  h
    cases (show (none : Option (Int32)) = some (r) from h)
  | succ F ih =>
    intro x1 x2  h
    rw [fX10_expected_5] at h
    refine j_iload_n B dX10_expected_5 rfl 2 rfl ?_
    refine j_bipush B dX10_expected_6 (v := 6) (by decide) ?_
    refine j_icmp_ge (tgt := 47) B dX10_expected_8 (by decide) (fun c => ?_) (fun c => ?_)
    · replace h := h_pos c h
      refine j_iload_n B dX10_expected_47 rfl 1 rfl ?_
      have e1 := Option.some.inj h
      subst e1
      exact j_iret B E rfl dX10_expected_48 (Nat.le_refl _) (Nat.le_refl _) ⟨rfl, rfl, rfl, rfl⟩
    · replace h := h_neg c h
      refine j_aload_n B dX10_expected_11 rfl 0 rfl ?_
      refine j_iload_n B dX10_expected_12 rfl 2 rfl ?_
      obtain ⟨r1, hr1, h⟩ := h_bind h
      refine j_cVJ (rest := []) B (tX10_weightOf hW hr1) cls10 (wf_65 hW) jt_RX10_364 wi_X10_weightOf ws_X10_weightOf rfl (by decide) (Nat.le_refl _) (Nat.le_refl _) rfl (Nat.le_of_ble_eq_true rfl) dX10_expected_13 ?_
      refine j_lconst B dX10_expected_16 (v := 0) rfl ?_
      refine j_lcmp B dX10_expected_17 ?_
      refine j_if_le (tgt := 41) B dX10_expected_18 (by decide) (fun c => ?_) (fun c => ?_)
      · replace h := h_pos c h
        refine j_locals [0, 1, 2] rfl ?_
        exact tX10_expected_41 B E hW ih (x1) (x2)  h
      · replace h := h_neg c h
        refine j_iload_n B dX10_expected_21 rfl 1 rfl ?_
        refine j_if_lt (tgt := 39) B dX10_expected_22 (by decide) (fun c => ?_) (fun c => ?_)
        · replace h := h_pos c h
          refine j_locals [0, 2] rfl ?_
          exact tX10_expected_39 B E hW ih (x2)  h
        · replace h := h_neg c h
          refine j_aload_n B dX10_expected_25 rfl 0 rfl ?_
          refine j_iload_n B dX10_expected_26 rfl 2 rfl ?_
          obtain ⟨r2, hr2, h⟩ := h_bind h
          refine j_cVJ (rest := []) B (tX10_weightOf hW hr2) cls10 (wf_65 hW) jt_RX10_364 wi_X10_weightOf ws_X10_weightOf rfl (by decide) (Nat.le_refl _) (Nat.le_refl _) rfl (Nat.le_of_ble_eq_true rfl) dX10_expected_27 ?_
          refine j_aload_n B dX10_expected_30 rfl 0 rfl ?_
          refine j_iload_n B dX10_expected_31 rfl 1 rfl ?_
          obtain ⟨r3, hr3, h⟩ := h_bind h
          refine j_cVJ (rest := [.long r2]) B (tX10_weightOf hW hr3) cls10 (wf_65 hW) jt_RX10_364 wi_X10_weightOf ws_X10_weightOf rfl (by decide) (Nat.le_refl _) (Nat.le_refl _) rfl (Nat.le_of_ble_eq_true rfl) dX10_expected_32 ?_
          refine j_lcmp B dX10_expected_35 ?_
          refine j_if_le (tgt := 41) B dX10_expected_36 (by decide) (fun c => ?_) (fun c => ?_)
          · replace h := h_pos c h
            refine j_locals [0, 1, 2] rfl ?_
            exact tX10_expected_41 B E hW ih (x1) (x2)  h
          · replace h := h_neg c h
            refine j_locals [0, 2] rfl ?_
            exact tX10_expected_39 B E hW ih (x2)  h
def fX10_expected  (vi0 : VI) : Option (Int32) := fX10_expected_5 vi0 FU (-2) 0
theorem tX10_expected {G : GT} {sv : SV} {vi0 : VI} {vl0 : VL} {ns : Nat} {r : Int32} (hW : WF sv ns) (h : fX10_expected vi0 = some (r)) : Call G mX10_expected 2 0 0 [.ref (G.1 + 63)] sv vi0 vl0 (QI r sv vi0 vl0) := by
  refine j_mk (by decide +kernel) (Nat.le_of_ble_eq_true rfl) (fun Γ B E => ?_)
  show J G Γ 0 0 0 [(0, .ref (G.1 + 63))] [] sv vi0 vl0
  unfold fX10_expected at h
  refine j_bipush B dX10_expected_0 (v := (-2)) (by decide) ?_
  refine j_istore_n (L' := [(1, .int (-2)), (0, .ref (G.1 + 63))]) B dX10_expected_2 rfl (by decide) rfl ?_
  refine j_iconst B dX10_expected_3 (v := 0) (by decide) ?_
  refine j_istore_n (L' := [(2, .int 0), (1, .int (-2)), (0, .ref (G.1 + 63))]) B dX10_expected_4 rfl (by decide) rfl ?_
  refine j_locals [2, 1, 0] rfl ?_
  exact tX10_expected_5 B E hW FU ((-2)) (0)  h
def fX10_judge_53 (vi0 : VI) (vl0 : VL) (k33 : Int32 → Int32 → Int32 → Option (Int32)) (x1 : Int32) (x2 : Int32) (x3 : Int32) : Option (Int32) := if inb x1 6 = true then if (vi0 95 x1.toNatClampNeg) ≤ x3 then some (x3) else if inb x2 5 = true then if (vi0 67 x2.toNatClampNeg) ≤ x3 then some (x3) else (fX10_at x1 x3 vl0).bind fun r7 => (fX10_whomAt x2 x3 vi0).bind fun r8 => if r7 = r8 then k33 x1 x2 (x3 + 1) else some (x3) else none else none
theorem tX10_judge_53 {G : GT} {sv : SV} {vi0 : VI} {vl0 : VL} {ns : Nat} {Γ : CT} {r : Int32} {k33 : Int32 → Int32 → Int32 → Option (Int32)} (B : Base G Γ mX10_judge 2 0 0) (E : Ends G Γ 0 0 (QI r sv vi0 vl0)) (hW : WF sv ns) (hk33 : ∀ (x1 : Int32) (x2 : Int32) (x3 : Int32), k33 x1 x2 x3 = some (r) → J G Γ 0 0 33 [(0, .ref (G.1 + 63)), (1, .int x1), (2, .int x2), (3, .int x3)] [] sv vi0 vl0) : ∀ (x1 : Int32) (x2 : Int32) (x3 : Int32), fX10_judge_53 vi0 vl0 k33 x1 x2 x3 = some (r) → J G Γ 0 0 53 [(0, .ref (G.1 + 63)), (1, .int x1), (2, .int x2), (3, .int x3)] [] sv vi0 vl0 := by
  intro x1 x2 x3  h
  unfold fX10_judge_53 at h
  refine j_iload_n B dX10_judge_53 rfl 3 rfl ?_
  refine j_aload_n B dX10_judge_54 rfl 0 rfl ?_
  refine gf_RX10_108 B rfl (wf_65 hW) (wf_193 hW) dX10_judge_55 ?_
  refine j_iload_n B dX10_judge_58 rfl 1 rfl ?_
  obtain ⟨b5, h⟩ := h_inb h
  refine j_iald B ((wf_97 hW)) b5 dX10_judge_59 ?_
  refine j_icmp_ge (tgt := 88) B dX10_judge_60 (by decide) (fun c => ?_) (fun c => ?_)
  · replace h := h_pos c h
    refine j_iload_n B dX10_judge_88 rfl 3 rfl ?_
    have e1 := Option.some.inj h
    subst e1
    exact j_iret B E rfl dX10_judge_89 (Nat.le_refl _) (Nat.le_refl _) ⟨rfl, rfl, rfl, rfl⟩
  · replace h := h_neg c h
    refine j_iload_n B dX10_judge_63 rfl 3 rfl ?_
    refine j_aload_n B dX10_judge_64 rfl 0 rfl ?_
    refine gf_RX10_21 B rfl (wf_65 hW) (wf_165 hW) dX10_judge_65 ?_
    refine j_iload_n B dX10_judge_68 rfl 2 rfl ?_
    obtain ⟨b6, h⟩ := h_inb h
    refine j_iald B ((wf_69 hW)) b6 dX10_judge_69 ?_
    refine j_icmp_ge (tgt := 88) B dX10_judge_70 (by decide) (fun c => ?_) (fun c => ?_)
    · replace h := h_pos c h
      refine j_iload_n B dX10_judge_88 rfl 3 rfl ?_
      have e1 := Option.some.inj h
      subst e1
      exact j_iret B E rfl dX10_judge_89 (Nat.le_refl _) (Nat.le_refl _) ⟨rfl, rfl, rfl, rfl⟩
    · replace h := h_neg c h
      refine j_aload_n B dX10_judge_73 rfl 0 rfl ?_
      refine j_iload_n B dX10_judge_74 rfl 1 rfl ?_
      refine j_iload_n B dX10_judge_75 rfl 3 rfl ?_
      obtain ⟨r7, hr7, h⟩ := h_bind h
      refine j_cVI (rest := []) B (tX10_at hW hr7) cls10 (wf_65 hW) jt_RX10_281 wi_X10_at ws_X10_at rfl (by decide) (Nat.le_refl _) (Nat.le_refl _) rfl (Nat.le_of_ble_eq_true rfl) dX10_judge_76 ?_
      refine j_aload_n B dX10_judge_79 rfl 0 rfl ?_
      refine j_iload_n B dX10_judge_80 rfl 2 rfl ?_
      refine j_iload_n B dX10_judge_81 rfl 3 rfl ?_
      obtain ⟨r8, hr8, h⟩ := h_bind h
      refine j_cVI (rest := [.int r7]) B (tX10_whomAt hW hr8) cls10 (wf_65 hW) jt_RX10_352 wi_X10_whomAt ws_X10_whomAt rfl (by decide) (Nat.le_refl _) (Nat.le_refl _) rfl (Nat.le_of_ble_eq_true rfl) dX10_judge_82 ?_
      refine j_icmp_eq (tgt := 90) B dX10_judge_85 (by decide) (fun c => ?_) (fun c => ?_)
      · replace h := h_pos c h
        refine j_iinc (v := (x3 + 1)) (L' := [(3, .int (x3 + 1)), (0, .ref (G.1 + 63)), (1, .int x1), (2, .int x2)]) B dX10_judge_90 3 rfl rfl (by decide) rfl ?_
        refine j_goto (tgt := 33) B dX10_judge_93 (by decide) ?_
        refine j_locals [1, 2, 3, 0] rfl ?_
        exact hk33 (x1) (x2) ((x3 + 1))  h
      · replace h := h_neg c h
        refine j_iload_n B dX10_judge_88 rfl 3 rfl ?_
        have e1 := Option.some.inj h
        subst e1
        exact j_iret B E rfl dX10_judge_89 (Nat.le_refl _) (Nat.le_refl _) ⟨rfl, rfl, rfl, rfl⟩
def fX10_judge_33 (vi0 : VI) (vl0 : VL) : Nat → Int32 → Int32 → Int32 → Option (Int32)
  | 0, _, _, _ => none
  | F + 1, x1, x2, x3 => if inb x1 6 = true then if x3 < (vi0 95 x1.toNatClampNeg) then fX10_judge_53 vi0 vl0 (fX10_judge_33 vi0 vl0 F) x1 x2 x3 else if inb x2 5 = true then if (vi0 67 x2.toNatClampNeg) ≤ x3 then some ((-2)) else fX10_judge_53 vi0 vl0 (fX10_judge_33 vi0 vl0 F) x1 x2 x3 else none else none
theorem tX10_judge_33 {G : GT} {sv : SV} {vi0 : VI} {vl0 : VL} {ns : Nat} {Γ : CT} {r : Int32} (B : Base G Γ mX10_judge 2 0 0) (E : Ends G Γ 0 0 (QI r sv vi0 vl0)) (hW : WF sv ns) : ∀ (F : Nat) (x1 : Int32) (x2 : Int32) (x3 : Int32), fX10_judge_33 vi0 vl0 F x1 x2 x3 = some (r) → J G Γ 0 0 33 [(0, .ref (G.1 + 63)), (1, .int x1), (2, .int x2), (3, .int x3)] [] sv vi0 vl0 := by
  intro F
  induction F with
  | zero =>
    intro x1 x2 x3  h
    cases (show (none : Option (Int32)) = some (r) from h)
  | succ F ih =>
    intro x1 x2 x3  h
    rw [fX10_judge_33] at h
    refine j_iload_n B dX10_judge_33 rfl 3 rfl ?_
    refine j_aload_n B dX10_judge_34 rfl 0 rfl ?_
    refine gf_RX10_108 B rfl (wf_65 hW) (wf_193 hW) dX10_judge_35 ?_
    refine j_iload_n B dX10_judge_38 rfl 1 rfl ?_
    obtain ⟨b4, h⟩ := h_inb h
    refine j_iald B ((wf_97 hW)) b4 dX10_judge_39 ?_
    refine j_icmp_lt (tgt := 53) B dX10_judge_40 (by decide) (fun c => ?_) (fun c => ?_)
    · replace h := h_pos c h
      refine j_locals [0, 1, 2, 3] rfl ?_
      exact tX10_judge_53 B E hW ih (x1) (x2) (x3)  h
    · replace h := h_neg c h
      refine j_iload_n B dX10_judge_43 rfl 3 rfl ?_
      refine j_aload_n B dX10_judge_44 rfl 0 rfl ?_
      refine gf_RX10_21 B rfl (wf_65 hW) (wf_165 hW) dX10_judge_45 ?_
      refine j_iload_n B dX10_judge_48 rfl 2 rfl ?_
      obtain ⟨b9, h⟩ := h_inb h
      refine j_iald B ((wf_69 hW)) b9 dX10_judge_49 ?_
      refine j_icmp_ge (tgt := 96) B dX10_judge_50 (by decide) (fun c => ?_) (fun c => ?_)
      · replace h := h_pos c h
        refine j_bipush B dX10_judge_96 (v := (-2)) (by decide) ?_
        have e1 := Option.some.inj h
        subst e1
        exact j_iret B E rfl dX10_judge_98 (Nat.le_refl _) (Nat.le_refl _) ⟨rfl, rfl, rfl, rfl⟩
      · replace h := h_neg c h
        refine j_locals [0, 1, 2, 3] rfl ?_
        exact tX10_judge_53 B E hW ih (x1) (x2) (x3)  h
def fX10_judge (x1 : Int32) (x2 : Int32) (vi0 : VI) (vl0 : VL) : Option (Int32) := (fX10_isShelf x1).bind fun r1 => if r1 = true then (fX10_isSill x2 vi0).bind fun r2 => if r2 = true then (fX10_rowFault x1 vi0).bind fun r3 => if 0 ≤ r3 then fX10_judge_33 vi0 vl0 FU x1 x2 0 else (fX10_rowFault x1 vi0).bind fun r10 => some (r10) else some ((-1)) else some ((-1))
theorem tX10_judge {G : GT} {sv : SV} {vi0 : VI} {vl0 : VL} {ns : Nat} {x1 : Int32} {x2 : Int32} {r : Int32} (hW : WF sv ns) (h : fX10_judge x1 x2 vi0 vl0 = some (r)) : Call G mX10_judge 2 0 0 [.ref (G.1 + 63), .int x1, .int x2] sv vi0 vl0 (QI r sv vi0 vl0) := by
  refine j_mk (by decide +kernel) (Nat.le_of_ble_eq_true rfl) (fun Γ B E => ?_)
  show J G Γ 0 0 0 [(0, .ref (G.1 + 63)), (1, .int x1), (2, .int x2)] [] sv vi0 vl0
  unfold fX10_judge at h
  refine j_iload_n B dX10_judge_0 rfl 1 rfl ?_
  obtain ⟨r1, hr1, h⟩ := h_bind h
  refine j_cSI (rest := []) B (tX10_isShelf hr1) jt_RX10_132 wst_X10_isShelf rfl (by decide) (Nat.le_refl _) (Nat.le_refl _) rfl (Nat.le_of_ble_eq_true rfl) dX10_judge_1 ?_
  refine j_if_eq (tgt := 15) B dX10_judge_4 (by decide) (fun c => ?_) (fun c => ?_)
  · replace h := h_neg (b2i_0 c) h
    refine j_iconst B dX10_judge_15 (v := (-1)) (by decide) ?_
    have e1 := Option.some.inj h
    subst e1
    exact j_iret B E rfl dX10_judge_16 (Nat.le_refl _) (Nat.le_refl _) ⟨rfl, rfl, rfl, rfl⟩
  · replace h := h_pos (b2i_1 c) h
    refine j_aload_n B dX10_judge_7 rfl 0 rfl ?_
    refine j_iload_n B dX10_judge_8 rfl 2 rfl ?_
    obtain ⟨r2, hr2, h⟩ := h_bind h
    refine j_cVI (rest := []) B (tX10_isSill hW hr2) cls10 (wf_65 hW) jt_RX10_152 wi_X10_isSill ws_X10_isSill rfl (by decide) (Nat.le_refl _) (Nat.le_refl _) rfl (Nat.le_of_ble_eq_true rfl) dX10_judge_9 ?_
    refine j_if_ne (tgt := 17) B dX10_judge_12 (by decide) (fun c => ?_) (fun c => ?_)
    · replace h := h_pos (b2i_1 c) h
      refine j_aload_n B dX10_judge_17 rfl 0 rfl ?_
      refine j_iload_n B dX10_judge_18 rfl 1 rfl ?_
      obtain ⟨r3, hr3, h⟩ := h_bind h
      refine j_cVI (rest := []) B (tX10_rowFault hW hr3) cls10 (wf_65 hW) jt_RX10_287 wi_X10_rowFault ws_X10_rowFault rfl (by decide) (Nat.le_refl _) (Nat.le_refl _) rfl (Nat.le_of_ble_eq_true rfl) dX10_judge_19 ?_
      refine j_if_ge (tgt := 31) B dX10_judge_22 (by decide) (fun c => ?_) (fun c => ?_)
      · replace h := h_pos c h
        refine j_iconst B dX10_judge_31 (v := 0) (by decide) ?_
        refine j_istore_n (L' := [(3, .int 0), (0, .ref (G.1 + 63)), (1, .int x1), (2, .int x2)]) B dX10_judge_32 rfl (by decide) rfl ?_
        refine j_locals [1, 2, 3, 0] rfl ?_
        exact tX10_judge_33 B E hW FU (x1) (x2) (0)  h
      · replace h := h_neg c h
        refine j_aload_n B dX10_judge_25 rfl 0 rfl ?_
        refine j_iload_n B dX10_judge_26 rfl 1 rfl ?_
        obtain ⟨r10, hr10, h⟩ := h_bind h
        refine j_cVI (rest := []) B (tX10_rowFault hW hr10) cls10 (wf_65 hW) jt_RX10_287 wi_X10_rowFault ws_X10_rowFault rfl (by decide) (Nat.le_refl _) (Nat.le_refl _) rfl (Nat.le_of_ble_eq_true rfl) dX10_judge_27 ?_
        have e1 := Option.some.inj h
        subst e1
        exact j_iret B E rfl dX10_judge_30 (Nat.le_refl _) (Nat.le_refl _) ⟨rfl, rfl, rfl, rfl⟩
    · replace h := h_neg (b2i_0 c) h
      refine j_iconst B dX10_judge_15 (v := (-1)) (by decide) ?_
      have e1 := Option.some.inj h
      subst e1
      exact j_iret B E rfl dX10_judge_16 (Nat.le_refl _) (Nat.le_refl _) ⟨rfl, rfl, rfl, rfl⟩
def fX10_drawn_162  (k62 : Int32 → Int32 → Int32 → Int32 → Int32 → Int32 → Int32 → VI → Option (Int32 × VI)) (x2 : Int32) (x3 : Int32) (x4 : Int32) (x5 : Int32) (x6 : Int32) (x7 : Int32) (x8 : Int32) (vi : VI) : Option (Int32 × VI) := k62 x2 x3 x4 x5 x6 x7 (x8 + 1) vi
theorem tX10_drawn_162 {G : GT} {sv : SV} {vl0 : VL} {ns : Nat} {Γ : CT} {r : Int32} {vi' : VI} {k62 : Int32 → Int32 → Int32 → Int32 → Int32 → Int32 → Int32 → VI → Option (Int32 × VI)} (B : Base G Γ mX10_drawn 5 0 0) (E : Ends G Γ 0 0 (QI r sv vi' vl0)) (hW : WF sv ns) (hk62 : ∀ (x2 : Int32) (x3 : Int32) (x4 : Int32) (x5 : Int32) (x6 : Int32) (x7 : Int32) (x8 : Int32) (vi : VI), k62 x2 x3 x4 x5 x6 x7 x8 vi = some (r, vi') → J G Γ 0 0 62 [(0, .ref (G.1 + 63)), (2, .int x2), (3, .int x3), (4, .int x4), (5, .int x5), (6, .int x6), (7, .int x7), (8, .int x8)] [] sv vi vl0) : ∀ (x2 : Int32) (x3 : Int32) (x4 : Int32) (x5 : Int32) (x6 : Int32) (x7 : Int32) (x8 : Int32) (vi : VI), fX10_drawn_162 k62 x2 x3 x4 x5 x6 x7 x8 vi = some (r, vi') → J G Γ 0 0 162 [(0, .ref (G.1 + 63)), (2, .int x2), (3, .int x3), (4, .int x4), (5, .int x5), (6, .int x6), (7, .int x7), (8, .int x8)] [] sv vi vl0 := by
  intro x2 x3 x4 x5 x6 x7 x8 vi  h
  unfold fX10_drawn_162 at h
  refine j_iinc (v := (x8 + 1)) (L' := [(8, .int (x8 + 1)), (0, .ref (G.1 + 63)), (2, .int x2), (3, .int x3), (4, .int x4), (5, .int x5), (6, .int x6), (7, .int x7)]) B dX10_drawn_162 7 rfl rfl (by decide) rfl ?_
  refine j_goto (tgt := 62) B dX10_drawn_165 (by decide) ?_
  refine j_locals [1, 2, 3, 4, 5, 6, 7, 0] rfl ?_
  exact hk62 (x2) (x3) (x4) (x5) (x6) (x7) ((x8 + 1)) (vi)  h
def fX10_drawn_79  (k62 : Int32 → Int32 → Int32 → Int32 → Int32 → Int32 → Int32 → VI → Option (Int32 × VI)) : Nat → Int32 → Int32 → Int32 → Int32 → Int32 → Int32 → Int32 → Int32 → VI → Option (Int32 × VI)
  | 0, _, _, _, _, _, _, _, _, _ => none
  | F + 1, x2, x3, x4, x5, x6, x7, x8, x9, vi => if (x2 - x2 / 100 * 100) ≤ x9 then if (vi 63 30) ≤ 0 then fX10_drawn_162 k62 x2 x3 x4 x5 (x6 + (vi 63 30)) x7 x8 vi else if inb ((vi 63 30) - 1) 13 = true then if (vi 82 ((vi 63 30) - 1).toNatClampNeg) = x4 then fX10_drawn_162 k62 x2 x3 x4 x5 (x6 + (vi 63 30)) (x7 + 1) x8 vi else fX10_drawn_162 k62 x2 x3 x4 x5 (x6 + (vi 63 30)) x7 x8 vi else none else (fX10_goLook (((((x5 * 1103515245) + 12345).toUInt32 >>> (((8) : Int32).toUInt32 &&& Int32.toUInt32 31)).toInt32) - ((((x5 * 1103515245) + 12345).toUInt32 >>> (((8) : Int32).toUInt32 &&& Int32.toUInt32 31)).toInt32) / 6 * 6) (((((x5 * 1103515245) + 12345).toUInt32 >>> (((16) : Int32).toUInt32 &&& Int32.toUInt32 31)).toInt32) - ((((x5 * 1103515245) + 12345).toUInt32 >>> (((16) : Int32).toUInt32 &&& Int32.toUInt32 31)).toInt32) / 10 * 10) vi).bind fun r7 => fX10_drawn_79 k62 F x2 x3 x4 ((x5 * 1103515245) + 12345) x6 x7 x8 (x9 + 1) r7.2
theorem tX10_drawn_79 {G : GT} {sv : SV} {vl0 : VL} {ns : Nat} {Γ : CT} {r : Int32} {vi' : VI} {k62 : Int32 → Int32 → Int32 → Int32 → Int32 → Int32 → Int32 → VI → Option (Int32 × VI)} (B : Base G Γ mX10_drawn 5 0 0) (E : Ends G Γ 0 0 (QI r sv vi' vl0)) (hW : WF sv ns) (hk62 : ∀ (x2 : Int32) (x3 : Int32) (x4 : Int32) (x5 : Int32) (x6 : Int32) (x7 : Int32) (x8 : Int32) (vi : VI), k62 x2 x3 x4 x5 x6 x7 x8 vi = some (r, vi') → J G Γ 0 0 62 [(0, .ref (G.1 + 63)), (2, .int x2), (3, .int x3), (4, .int x4), (5, .int x5), (6, .int x6), (7, .int x7), (8, .int x8)] [] sv vi vl0) : ∀ (F : Nat) (x2 : Int32) (x3 : Int32) (x4 : Int32) (x5 : Int32) (x6 : Int32) (x7 : Int32) (x8 : Int32) (x9 : Int32) (vi : VI), fX10_drawn_79 k62 F x2 x3 x4 x5 x6 x7 x8 x9 vi = some (r, vi') → J G Γ 0 0 79 [(0, .ref (G.1 + 63)), (2, .int x2), (3, .int x3), (4, .int x4), (5, .int x5), (6, .int x6), (7, .int x7), (8, .int x8), (9, .int x9)] [] sv vi vl0 := by
  intro F
  induction F with
  | zero =>
    intro x2 x3 x4 x5 x6 x7 x8 x9 vi  h
    cases (show (none : Option (Int32 × VI)) = some (r, vi') from h)
  | succ F ih =>
    intro x2 x3 x4 x5 x6 x7 x8 x9 vi  h
    rw [fX10_drawn_79] at h
    refine j_iload B dX10_drawn_79 8 rfl ?_
    refine j_iload_n B dX10_drawn_81 rfl 1 rfl ?_
    refine j_bipush B dX10_drawn_82 (v := 100) (by decide) ?_
    refine j_irem B dX10_drawn_84 (by decide) ?_
    refine j_icmp_ge (tgt := 127) B dX10_drawn_85 (by decide) (fun c => ?_) (fun c => ?_)
    · replace h := h_pos c h
      refine j_iload B dX10_drawn_127 5 rfl ?_
      refine j_aload_n B dX10_drawn_129 rfl 0 rfl ?_
      refine gf_RX10_173 B rfl (wf_65 hW) dX10_drawn_130 ?_
      refine j_iadd B dX10_drawn_133 ?_
      refine j_istore (L' := [(6, .int (x6 + (vi 63 30))), (0, .ref (G.1 + 63)), (2, .int x2), (3, .int x3), (4, .int x4), (5, .int x5), (7, .int x7), (8, .int x8), (9, .int x9)]) B dX10_drawn_134 (by decide) rfl ?_
      refine j_aload_n B dX10_drawn_136 rfl 1 rfl ?_
      refine gf_RX10_173 B rfl (wf_65 hW) dX10_drawn_137 ?_
      refine j_if_le (tgt := 162) B dX10_drawn_140 (by decide) (fun c => ?_) (fun c => ?_)
      · replace h := h_pos c h
        refine j_locals [1, 2, 3, 4, 5, 0, 6, 7] rfl ?_
        exact tX10_drawn_162 B E hW hk62 (x2) (x3) (x4) (x5) ((x6 + (vi 63 30))) (x7) (x8) (vi)  h
      · replace h := h_neg c h
        refine j_aload_n B dX10_drawn_143 rfl 1 rfl ?_
        refine gf_RX10_68 B rfl (wf_65 hW) (wf_180 hW) dX10_drawn_144 ?_
        refine j_aload_n B dX10_drawn_147 rfl 1 rfl ?_
        refine gf_RX10_173 B rfl (wf_65 hW) dX10_drawn_148 ?_
        refine j_iconst B dX10_drawn_151 (v := 1) (by decide) ?_
        refine j_isub B dX10_drawn_152 ?_
        obtain ⟨b6, h⟩ := h_inb h
        refine j_iald B ((wf_84 hW)) b6 dX10_drawn_153 ?_
        refine j_iload B dX10_drawn_154 4 rfl ?_
        refine j_icmp_ne (tgt := 162) B dX10_drawn_156 (by decide) (fun c => ?_) (fun c => ?_)
        · replace h := h_neg c h
          refine j_locals [1, 2, 3, 4, 5, 0, 6, 7] rfl ?_
          exact tX10_drawn_162 B E hW hk62 (x2) (x3) (x4) (x5) ((x6 + (vi 63 30))) (x7) (x8) (vi)  h
        · replace h := h_pos c h
          refine j_iinc (v := (x7 + 1)) (L' := [(7, .int (x7 + 1)), (6, .int (x6 + (vi 63 30))), (0, .ref (G.1 + 63)), (2, .int x2), (3, .int x3), (4, .int x4), (5, .int x5), (8, .int x8), (9, .int x9)]) B dX10_drawn_159 6 rfl rfl (by decide) rfl ?_
          refine j_locals [2, 3, 4, 5, 6, 1, 0, 7] rfl ?_
          exact tX10_drawn_162 B E hW hk62 (x2) (x3) (x4) (x5) ((x6 + (vi 63 30))) ((x7 + 1)) (x8) (vi)  h
    · replace h := h_neg c h
      refine j_iload B dX10_drawn_88 4 rfl ?_
      refine j_ldcw B wk_RX10_372 dX10_drawn_90 ?_
      refine j_imul B dX10_drawn_93 ?_
      refine j_sipush B dX10_drawn_94 (v := 12345) (by decide) ?_
      refine j_iadd B dX10_drawn_97 ?_
      refine j_istore (L' := [(5, .int ((x5 * 1103515245) + 12345)), (0, .ref (G.1 + 63)), (2, .int x2), (3, .int x3), (4, .int x4), (6, .int x6), (7, .int x7), (8, .int x8), (9, .int x9)]) B dX10_drawn_98 (by decide) rfl ?_
      refine j_aload_n B dX10_drawn_100 rfl 1 rfl ?_
      refine j_iload B dX10_drawn_101 0 rfl ?_
      refine j_bipush B dX10_drawn_103 (v := 8) (by decide) ?_
      refine j_iushr B dX10_drawn_105 ?_
      refine j_bipush B dX10_drawn_106 (v := 6) (by decide) ?_
      refine j_irem B dX10_drawn_108 (by decide) ?_
      refine j_iload B dX10_drawn_109 0 rfl ?_
      refine j_bipush B dX10_drawn_111 (v := 16) (by decide) ?_
      refine j_iushr B dX10_drawn_113 ?_
      refine j_bipush B dX10_drawn_114 (v := 10) (by decide) ?_
      refine j_irem B dX10_drawn_116 (by decide) ?_
      obtain ⟨r7, hr7, h⟩ := h_bind h
      refine j_cVI (rest := []) B (tX10_goLook hW hr7) cls10 (wf_65 hW) jt_RX10_272 wi_X10_goLook ws_X10_goLook rfl (by decide) (Nat.le_refl _) (Nat.le_refl _) rfl (Nat.le_of_ble_eq_true rfl) dX10_drawn_117 ?_
      refine j_pop B dX10_drawn_120 rfl ?_
      refine j_iinc (v := (x9 + 1)) (L' := [(9, .int (x9 + 1)), (5, .int ((x5 * 1103515245) + 12345)), (0, .ref (G.1 + 63)), (2, .int x2), (3, .int x3), (4, .int x4), (6, .int x6), (7, .int x7), (8, .int x8)]) B dX10_drawn_121 8 rfl rfl (by decide) rfl ?_
      refine j_goto (tgt := 79) B dX10_drawn_124 (by decide) ?_
      refine j_locals [2, 3, 4, 5, 1, 6, 7, 8, 0] rfl ?_
      exact ih (x2) (x3) (x4) (((x5 * 1103515245) + 12345)) (x6) (x7) (x8) ((x9 + 1)) (r7.2)  h
def fX10_drawn_62  : Nat → Int32 → Int32 → Int32 → Int32 → Int32 → Int32 → Int32 → VI → Option (Int32 × VI)
  | 0, _, _, _, _, _, _, _, _ => none
  | F + 1, x2, x3, x4, x5, x6, x7, x8, vi => if (x2 / 100) ≤ x8 then if 0 ≤ x4 then some (x7, vi) else some (x6, vi) else (fX10_layNow x3 vi).bind fun r5 => fX10_drawn_79 (fX10_drawn_62  F) FU x2 x3 x4 x5 x6 x7 x8 0 r5
theorem tX10_drawn_62 {G : GT} {sv : SV} {vl0 : VL} {ns : Nat} {Γ : CT} {r : Int32} {vi' : VI} (B : Base G Γ mX10_drawn 5 0 0) (E : Ends G Γ 0 0 (QI r sv vi' vl0)) (hW : WF sv ns) : ∀ (F : Nat) (x2 : Int32) (x3 : Int32) (x4 : Int32) (x5 : Int32) (x6 : Int32) (x7 : Int32) (x8 : Int32) (vi : VI), fX10_drawn_62  F x2 x3 x4 x5 x6 x7 x8 vi = some (r, vi') → J G Γ 0 0 62 [(0, .ref (G.1 + 63)), (2, .int x2), (3, .int x3), (4, .int x4), (5, .int x5), (6, .int x6), (7, .int x7), (8, .int x8)] [] sv vi vl0 := by
  intro F
  induction F with
  | zero =>
    intro x2 x3 x4 x5 x6 x7 x8 vi  h
    cases (show (none : Option (Int32 × VI)) = some (r, vi') from h)
  | succ F ih =>
    intro x2 x3 x4 x5 x6 x7 x8 vi  h
    rw [fX10_drawn_62] at h
    refine j_iload B dX10_drawn_62 7 rfl ?_
    refine j_iload_n B dX10_drawn_64 rfl 1 rfl ?_
    refine j_bipush B dX10_drawn_65 (v := 100) (by decide) ?_
    refine j_idiv B dX10_drawn_67 (by decide) ?_
    refine j_icmp_ge (tgt := 168) B dX10_drawn_68 (by decide) (fun c => ?_) (fun c => ?_)
    · replace h := h_pos c h
      refine j_iload B dX10_drawn_168 3 rfl ?_
      refine j_if_ge (tgt := 178) B dX10_drawn_170 (by decide) (fun c => ?_) (fun c => ?_)
      · replace h := h_pos c h
        refine j_iload B dX10_drawn_178 6 rfl ?_
        obtain ⟨e1, e2⟩ := Prod.mk.inj (Option.some.inj h)
        subst e1
        subst e2
        exact j_iret B E rfl dX10_drawn_180 (Nat.le_refl _) (Nat.le_refl _) ⟨rfl, rfl, rfl, rfl⟩
      · replace h := h_neg c h
        refine j_iload B dX10_drawn_173 5 rfl ?_
        refine j_goto (tgt := 180) B dX10_drawn_175 (by decide) ?_
        obtain ⟨e1, e2⟩ := Prod.mk.inj (Option.some.inj h)
        subst e1
        subst e2
        exact j_iret B E rfl dX10_drawn_180 (Nat.le_refl _) (Nat.le_refl _) ⟨rfl, rfl, rfl, rfl⟩
    · replace h := h_neg c h
      refine j_aload_n B dX10_drawn_71 rfl 0 rfl ?_
      refine j_iload_n B dX10_drawn_72 rfl 2 rfl ?_
      obtain ⟨r5, hr5, h⟩ := h_bind h
      refine j_cVV (rest := []) B (tX10_layNow hW hr5) cls10 (wf_65 hW) jt_RX10_169 wi_X10_layNow ws_X10_layNow rfl (by decide) (Nat.le_refl _) (Nat.le_refl _) rfl (Nat.le_of_ble_eq_true rfl) dX10_drawn_73 ?_
      refine j_iconst B dX10_drawn_76 (v := 0) (by decide) ?_
      refine j_istore (L' := [(9, .int 0), (0, .ref (G.1 + 63)), (2, .int x2), (3, .int x3), (4, .int x4), (5, .int x5), (6, .int x6), (7, .int x7), (8, .int x8)]) B dX10_drawn_77 (by decide) rfl ?_
      refine j_locals [1, 2, 3, 4, 5, 6, 7, 8, 0] rfl ?_
      exact tX10_drawn_79 B E hW ih FU (x2) (x3) (x4) (x5) (x6) (x7) (x8) (0) (r5)  h
def fX10_drawn (x1 : Int32) (x2 : Int32) (x3 : Int32) (x4 : Int32) (vi0 : VI) : Option (Int32 × VI) := if x2 < 0 then some ((-1), vi0) else (fX10_in (x2 / 100) 1 30).bind fun r1 => if r1 = true then (fX10_in (x2 - x2 / 100 * 100) 1 40).bind fun r2 => if r2 = true then (fX10_isSill x3 vi0).bind fun r3 => if r3 = true then (fX10_in x4 (-1) 5).bind fun r4 => if r4 = true then fX10_drawn_62  FU x2 x3 x4 x1 0 0 0 vi0 else some ((-1), vi0) else some ((-1), vi0) else some ((-1), vi0) else some ((-1), vi0)
theorem tX10_drawn {G : GT} {sv : SV} {vi0 : VI} {vl0 : VL} {ns : Nat} {x1 : Int32} {x2 : Int32} {x3 : Int32} {x4 : Int32} {r : Int32} {vi' : VI} (hW : WF sv ns) (h : fX10_drawn x1 x2 x3 x4 vi0 = some (r, vi')) : Call G mX10_drawn 5 0 0 [.ref (G.1 + 63), .int x1, .int x2, .int x3, .int x4] sv vi0 vl0 (QI r sv vi' vl0) := by
  refine j_mk (by decide +kernel) (Nat.le_of_ble_eq_true rfl) (fun Γ B E => ?_)
  show J G Γ 0 0 0 [(0, .ref (G.1 + 63)), (1, .int x1), (2, .int x2), (3, .int x3), (4, .int x4)] [] sv vi0 vl0
  unfold fX10_drawn at h
  refine j_iload_n B dX10_drawn_0 rfl 2 rfl ?_
  refine j_if_lt (tgt := 48) B dX10_drawn_1 (by decide) (fun c => ?_) (fun c => ?_)
  · replace h := h_pos c h
    refine j_iconst B dX10_drawn_48 (v := (-1)) (by decide) ?_
    obtain ⟨e1, e2⟩ := Prod.mk.inj (Option.some.inj h)
    subst e1
    subst e2
    exact j_iret B E rfl dX10_drawn_49 (Nat.le_refl _) (Nat.le_refl _) ⟨rfl, rfl, rfl, rfl⟩
  · replace h := h_neg c h
    refine j_iload_n B dX10_drawn_4 rfl 2 rfl ?_
    refine j_bipush B dX10_drawn_5 (v := 100) (by decide) ?_
    refine j_idiv B dX10_drawn_7 (by decide) ?_
    refine j_iconst B dX10_drawn_8 (v := 1) (by decide) ?_
    refine j_bipush B dX10_drawn_9 (v := 30) (by decide) ?_
    obtain ⟨r1, hr1, h⟩ := h_bind h
    refine j_cSI (rest := []) B (tX10_in hr1) jt_RX10_124 wst_X10_in rfl (by decide) (Nat.le_refl _) (Nat.le_refl _) rfl (Nat.le_of_ble_eq_true rfl) dX10_drawn_11 ?_
    refine j_if_eq (tgt := 48) B dX10_drawn_14 (by decide) (fun c => ?_) (fun c => ?_)
    · replace h := h_neg (b2i_0 c) h
      refine j_iconst B dX10_drawn_48 (v := (-1)) (by decide) ?_
      obtain ⟨e1, e2⟩ := Prod.mk.inj (Option.some.inj h)
      subst e1
      subst e2
      exact j_iret B E rfl dX10_drawn_49 (Nat.le_refl _) (Nat.le_refl _) ⟨rfl, rfl, rfl, rfl⟩
    · replace h := h_pos (b2i_1 c) h
      refine j_iload_n B dX10_drawn_17 rfl 2 rfl ?_
      refine j_bipush B dX10_drawn_18 (v := 100) (by decide) ?_
      refine j_irem B dX10_drawn_20 (by decide) ?_
      refine j_iconst B dX10_drawn_21 (v := 1) (by decide) ?_
      refine j_bipush B dX10_drawn_22 (v := 40) (by decide) ?_
      obtain ⟨r2, hr2, h⟩ := h_bind h
      refine j_cSI (rest := []) B (tX10_in hr2) jt_RX10_124 wst_X10_in rfl (by decide) (Nat.le_refl _) (Nat.le_refl _) rfl (Nat.le_of_ble_eq_true rfl) dX10_drawn_24 ?_
      refine j_if_eq (tgt := 48) B dX10_drawn_27 (by decide) (fun c => ?_) (fun c => ?_)
      · replace h := h_neg (b2i_0 c) h
        refine j_iconst B dX10_drawn_48 (v := (-1)) (by decide) ?_
        obtain ⟨e1, e2⟩ := Prod.mk.inj (Option.some.inj h)
        subst e1
        subst e2
        exact j_iret B E rfl dX10_drawn_49 (Nat.le_refl _) (Nat.le_refl _) ⟨rfl, rfl, rfl, rfl⟩
      · replace h := h_pos (b2i_1 c) h
        refine j_aload_n B dX10_drawn_30 rfl 0 rfl ?_
        refine j_iload_n B dX10_drawn_31 rfl 3 rfl ?_
        obtain ⟨r3, hr3, h⟩ := h_bind h
        refine j_cVI (rest := []) B (tX10_isSill hW hr3) cls10 (wf_65 hW) jt_RX10_152 wi_X10_isSill ws_X10_isSill rfl (by decide) (Nat.le_refl _) (Nat.le_refl _) rfl (Nat.le_of_ble_eq_true rfl) dX10_drawn_32 ?_
        refine j_if_eq (tgt := 48) B dX10_drawn_35 (by decide) (fun c => ?_) (fun c => ?_)
        · replace h := h_neg (b2i_0 c) h
          refine j_iconst B dX10_drawn_48 (v := (-1)) (by decide) ?_
          obtain ⟨e1, e2⟩ := Prod.mk.inj (Option.some.inj h)
          subst e1
          subst e2
          exact j_iret B E rfl dX10_drawn_49 (Nat.le_refl _) (Nat.le_refl _) ⟨rfl, rfl, rfl, rfl⟩
        · replace h := h_pos (b2i_1 c) h
          refine j_iload B dX10_drawn_38 4 rfl ?_
          refine j_iconst B dX10_drawn_40 (v := (-1)) (by decide) ?_
          refine j_iconst B dX10_drawn_41 (v := 5) (by decide) ?_
          obtain ⟨r4, hr4, h⟩ := h_bind h
          refine j_cSI (rest := []) B (tX10_in hr4) jt_RX10_124 wst_X10_in rfl (by decide) (Nat.le_refl _) (Nat.le_refl _) rfl (Nat.le_of_ble_eq_true rfl) dX10_drawn_42 ?_
          refine j_if_ne (tgt := 50) B dX10_drawn_45 (by decide) (fun c => ?_) (fun c => ?_)
          · replace h := h_pos (b2i_1 c) h
            refine j_iload_n B dX10_drawn_50 rfl 1 rfl ?_
            refine j_istore (L' := [(5, .int x1), (0, .ref (G.1 + 63)), (1, .int x1), (2, .int x2), (3, .int x3), (4, .int x4)]) B dX10_drawn_51 (by decide) rfl ?_
            refine j_iconst B dX10_drawn_53 (v := 0) (by decide) ?_
            refine j_istore (L' := [(6, .int 0), (5, .int x1), (0, .ref (G.1 + 63)), (1, .int x1), (2, .int x2), (3, .int x3), (4, .int x4)]) B dX10_drawn_54 (by decide) rfl ?_
            refine j_iconst B dX10_drawn_56 (v := 0) (by decide) ?_
            refine j_istore (L' := [(7, .int 0), (6, .int 0), (5, .int x1), (0, .ref (G.1 + 63)), (1, .int x1), (2, .int x2), (3, .int x3), (4, .int x4)]) B dX10_drawn_57 (by decide) rfl ?_
            refine j_iconst B dX10_drawn_59 (v := 0) (by decide) ?_
            refine j_istore (L' := [(8, .int 0), (7, .int 0), (6, .int 0), (5, .int x1), (0, .ref (G.1 + 63)), (1, .int x1), (2, .int x2), (3, .int x3), (4, .int x4)]) B dX10_drawn_60 (by decide) rfl ?_
            refine j_locals [4, 6, 7, 8, 3, 2, 1, 0] rfl ?_
            exact tX10_drawn_62 B E hW FU (x2) (x3) (x4) (x1) (0) (0) (0) (vi0)  h
          · replace h := h_neg (b2i_0 c) h
            refine j_iconst B dX10_drawn_48 (v := (-1)) (by decide) ?_
            obtain ⟨e1, e2⟩ := Prod.mk.inj (Option.some.inj h)
            subst e1
            subst e2
            exact j_iret B E rfl dX10_drawn_49 (Nat.le_refl _) (Nat.le_refl _) ⟨rfl, rfl, rfl, rfl⟩
def fX10_keepSill_15  : Nat → Int32 → VI → Option (VI)
  | 0, _, _ => none
  | F + 1, x1, vi => if (vi 63 30) ≤ x1 then some (vi) else if inb x1 13 = true then if inb ((12 * (vi 63 29)) + x1) 60 = true then if inb x1 13 = true then if inb ((12 * ((j_up vi 68 ((12 * (vi 63 29)) + x1).toNatClampNeg (vi 82 x1.toNatClampNeg)) 63 29)) + x1) 60 = true then fX10_keepSill_15  F (x1 + 1) (j_up (j_up vi 68 ((12 * (vi 63 29)) + x1).toNatClampNeg (vi 82 x1.toNatClampNeg)) 69 ((12 * ((j_up vi 68 ((12 * (vi 63 29)) + x1).toNatClampNeg (vi 82 x1.toNatClampNeg)) 63 29)) + x1).toNatClampNeg ((j_up vi 68 ((12 * (vi 63 29)) + x1).toNatClampNeg (vi 82 x1.toNatClampNeg)) 83 x1.toNatClampNeg)) else none else none else none else none
theorem tX10_keepSill_15 {G : GT} {sv : SV} {vl0 : VL} {ns : Nat} {Γ : CT} {vi' : VI} (B : Base G Γ mX10_keepSill 0 0 0) (E : Ends G Γ 0 0 (QV sv vi' vl0)) (hW : WF sv ns) : ∀ (F : Nat) (x1 : Int32) (vi : VI), fX10_keepSill_15  F x1 vi = some (vi') → J G Γ 0 0 15 [(0, .ref (G.1 + 63)), (1, .int x1)] [] sv vi vl0 := by
  intro F
  induction F with
  | zero =>
    intro x1 vi  h
    cases (show (none : Option (VI)) = some (vi') from h)
  | succ F ih =>
    intro x1 vi  h
    rw [fX10_keepSill_15] at h
    refine j_iload_n B dX10_keepSill_15 rfl 1 rfl ?_
    refine j_aload_n B dX10_keepSill_16 rfl 0 rfl ?_
    refine gf_RX10_173 B rfl (wf_65 hW) dX10_keepSill_17 ?_
    refine j_icmp_ge (tgt := 69) B dX10_keepSill_20 (by decide) (fun c => ?_) (fun c => ?_)
    · replace h := h_pos c h
      have e1 := Option.some.inj h
      subst e1
      exact j_vret B E rfl dX10_keepSill_69 (Nat.le_refl _) (Nat.le_refl _) ⟨rfl, rfl, rfl, rfl⟩
    · replace h := h_neg c h
      refine j_aload_n B dX10_keepSill_23 rfl 0 rfl ?_
      refine gf_RX10_24 B rfl (wf_65 hW) (wf_166 hW) dX10_keepSill_24 ?_
      refine j_bipush B dX10_keepSill_27 (v := 12) (by decide) ?_
      refine j_aload_n B dX10_keepSill_29 rfl 0 rfl ?_
      refine gf_RX10_263 B rfl (wf_65 hW) dX10_keepSill_30 ?_
      refine j_imul B dX10_keepSill_33 ?_
      refine j_iload_n B dX10_keepSill_34 rfl 1 rfl ?_
      refine j_iadd B dX10_keepSill_35 ?_
      refine j_aload_n B dX10_keepSill_36 rfl 0 rfl ?_
      refine gf_RX10_68 B rfl (wf_65 hW) (wf_180 hW) dX10_keepSill_37 ?_
      refine j_iload_n B dX10_keepSill_40 rfl 1 rfl ?_
      obtain ⟨b2, h⟩ := h_inb h
      refine j_iald B ((wf_84 hW)) b2 dX10_keepSill_41 ?_
      obtain ⟨b3, h⟩ := h_inb h
      refine j_iast B ((wf_70 hW)) b3 dX10_keepSill_42 ?_
      refine j_aload_n B dX10_keepSill_43 rfl 0 rfl ?_
      refine gf_RX10_27 B rfl (wf_65 hW) (wf_167 hW) dX10_keepSill_44 ?_
      refine j_bipush B dX10_keepSill_47 (v := 12) (by decide) ?_
      refine j_aload_n B dX10_keepSill_49 rfl 0 rfl ?_
      refine gf_RX10_263 B rfl (wf_65 hW) dX10_keepSill_50 ?_
      refine j_imul B dX10_keepSill_53 ?_
      refine j_iload_n B dX10_keepSill_54 rfl 1 rfl ?_
      refine j_iadd B dX10_keepSill_55 ?_
      refine j_aload_n B dX10_keepSill_56 rfl 0 rfl ?_
      refine gf_RX10_71 B rfl (wf_65 hW) (wf_181 hW) dX10_keepSill_57 ?_
      refine j_iload_n B dX10_keepSill_60 rfl 1 rfl ?_
      obtain ⟨b4, h⟩ := h_inb h
      refine j_iald B ((wf_85 hW)) b4 dX10_keepSill_61 ?_
      obtain ⟨b5, h⟩ := h_inb h
      refine j_iast B ((wf_71 hW)) b5 dX10_keepSill_62 ?_
      refine j_iinc (v := (x1 + 1)) (L' := [(1, .int (x1 + 1)), (0, .ref (G.1 + 63))]) B dX10_keepSill_63 1 rfl rfl (by decide) rfl ?_
      refine j_goto (tgt := 15) B dX10_keepSill_66 (by decide) ?_
      refine j_locals [1, 0] rfl ?_
      exact ih ((x1 + 1)) ((j_up (j_up vi 68 ((12 * (vi 63 29)) + x1).toNatClampNeg (vi 82 x1.toNatClampNeg)) 69 ((12 * ((j_up vi 68 ((12 * (vi 63 29)) + x1).toNatClampNeg (vi 82 x1.toNatClampNeg)) 63 29)) + x1).toNatClampNeg ((j_up vi 68 ((12 * (vi 63 29)) + x1).toNatClampNeg (vi 82 x1.toNatClampNeg)) 83 x1.toNatClampNeg)))  h
def fX10_keepSill  (vi0 : VI) : Option (VI) := if inb (vi0 63 29) 5 = true then fX10_keepSill_15  FU 0 (j_up vi0 67 (vi0 63 29).toNatClampNeg (vi0 63 30)) else none
theorem tX10_keepSill {G : GT} {sv : SV} {vi0 : VI} {vl0 : VL} {ns : Nat} {vi' : VI} (hW : WF sv ns) (h : fX10_keepSill vi0 = some (vi')) : Call G mX10_keepSill 0 0 0 [.ref (G.1 + 63)] sv vi0 vl0 (QV sv vi' vl0) := by
  refine j_mk (by decide +kernel) (Nat.le_of_ble_eq_true rfl) (fun Γ B E => ?_)
  show J G Γ 0 0 0 [(0, .ref (G.1 + 63))] [] sv vi0 vl0
  unfold fX10_keepSill at h
  refine j_aload_n B dX10_keepSill_0 rfl 0 rfl ?_
  refine gf_RX10_21 B rfl (wf_65 hW) (wf_165 hW) dX10_keepSill_1 ?_
  refine j_aload_n B dX10_keepSill_4 rfl 0 rfl ?_
  refine gf_RX10_263 B rfl (wf_65 hW) dX10_keepSill_5 ?_
  refine j_aload_n B dX10_keepSill_8 rfl 0 rfl ?_
  refine gf_RX10_173 B rfl (wf_65 hW) dX10_keepSill_9 ?_
  obtain ⟨b1, h⟩ := h_inb h
  refine j_iast B ((wf_69 hW)) b1 dX10_keepSill_12 ?_
  refine j_iconst B dX10_keepSill_13 (v := 0) (by decide) ?_
  refine j_istore_n (L' := [(1, .int 0), (0, .ref (G.1 + 63))]) B dX10_keepSill_14 rfl (by decide) rfl ?_
  refine j_locals [1, 0] rfl ?_
  exact tX10_keepSill_15 B E hW FU (0) ((j_up vi0 67 (vi0 63 29).toNatClampNeg (vi0 63 30)))  h
def fX10_look_16  : Nat → Int32 → Int32 → Int32 → VI → Option (Int32 × VI)
  | 0, _, _, _, _ => none
  | F + 1, x1, x2, x3, vi => if (vi 63 1) ≤ x3 then some (x2, (j_up (j_up vi 87 (0 : Int32).toNatClampNeg ((vi 87 (0 : Int32).toNatClampNeg) + 1)) 87 (1 : Int32).toNatClampNeg (((j_up vi 87 (0 : Int32).toNatClampNeg ((vi 87 (0 : Int32).toNatClampNeg) + 1)) 87 (1 : Int32).toNatClampNeg) + x2))) else (fX10_layNow x3 vi).bind fun r2 => (fX10_whomIn x1).bind fun r3 => (fX10_muchIn x1 r2).bind fun r4 => (fX10_thickerBy r3 r4 r2).bind fun r5 => (fX10_keepSill r5.2).bind fun r6 => fX10_look_16  F x1 (x2 + r5.1) (x3 + 1) r6
theorem tX10_look_16 {G : GT} {sv : SV} {vl0 : VL} {ns : Nat} {Γ : CT} {r : Int32} {vi' : VI} (B : Base G Γ mX10_look 6 0 0) (E : Ends G Γ 0 0 (QI r sv vi' vl0)) (hW : WF sv ns) : ∀ (F : Nat) (x1 : Int32) (x2 : Int32) (x3 : Int32) (vi : VI), fX10_look_16  F x1 x2 x3 vi = some (r, vi') → J G Γ 0 0 16 [(0, .ref (G.1 + 63)), (1, .int x1), (2, .int x2), (3, .int x3)] [] sv vi vl0 := by
  intro F
  induction F with
  | zero =>
    intro x1 x2 x3 vi  h
    cases (show (none : Option (Int32 × VI)) = some (r, vi') from h)
  | succ F ih =>
    intro x1 x2 x3 vi  h
    rw [fX10_look_16] at h
    refine j_iload_n B dX10_look_16 rfl 3 rfl ?_
    refine j_aload_n B dX10_look_17 rfl 0 rfl ?_
    refine gf_RX10_121 B rfl (wf_65 hW) dX10_look_18 ?_
    refine j_icmp_ge (tgt := 56) B dX10_look_21 (by decide) (fun c => ?_) (fun c => ?_)
    · replace h := h_pos c h
      refine j_aload_n B dX10_look_56 rfl 0 rfl ?_
      refine gf_RX10_84 B rfl (wf_65 hW) (wf_185 hW) dX10_look_57 ?_
      refine j_iconst B dX10_look_60 (v := 0) (by decide) ?_
      refine j_dup2 B dX10_look_61 rfl rfl ?_
      refine j_iald B ((wf_89 hW)) (vp_in_iff.mpr ⟨by decide, by decide⟩) dX10_look_62 ?_
      refine j_iconst B dX10_look_63 (v := 1) (by decide) ?_
      refine j_iadd B dX10_look_64 ?_
      refine j_iast B ((wf_89 hW)) (vp_in_iff.mpr ⟨by decide, by decide⟩) dX10_look_65 ?_
      refine j_aload_n B dX10_look_66 rfl 0 rfl ?_
      refine gf_RX10_84 B rfl (wf_65 hW) (wf_185 hW) dX10_look_67 ?_
      refine j_iconst B dX10_look_70 (v := 1) (by decide) ?_
      refine j_dup2 B dX10_look_71 rfl rfl ?_
      refine j_iald B ((wf_89 hW)) (vp_in_iff.mpr ⟨by decide, by decide⟩) dX10_look_72 ?_
      refine j_iload_n B dX10_look_73 rfl 2 rfl ?_
      refine j_iadd B dX10_look_74 ?_
      refine j_iast B ((wf_89 hW)) (vp_in_iff.mpr ⟨by decide, by decide⟩) dX10_look_75 ?_
      refine j_iload_n B dX10_look_76 rfl 2 rfl ?_
      obtain ⟨e1, e2⟩ := Prod.mk.inj (Option.some.inj h)
      subst e1
      subst e2
      exact j_iret B E rfl dX10_look_77 (Nat.le_refl _) (Nat.le_refl _) ⟨rfl, rfl, rfl, rfl⟩
    · replace h := h_neg c h
      refine j_aload_n B dX10_look_24 rfl 0 rfl ?_
      refine j_iload_n B dX10_look_25 rfl 3 rfl ?_
      obtain ⟨r2, hr2, h⟩ := h_bind h
      refine j_cVV (rest := []) B (tX10_layNow hW hr2) cls10 (wf_65 hW) jt_RX10_169 wi_X10_layNow ws_X10_layNow rfl (by decide) (Nat.le_refl _) (Nat.le_refl _) rfl (Nat.le_of_ble_eq_true rfl) dX10_look_26 ?_
      refine j_iload_n B dX10_look_29 rfl 2 rfl ?_
      refine j_aload_n B dX10_look_30 rfl 0 rfl ?_
      refine j_aload_n B dX10_look_31 rfl 0 rfl ?_
      refine j_iload_n B dX10_look_32 rfl 1 rfl ?_
      obtain ⟨r3, hr3, h⟩ := h_bind h
      refine j_cVI (rest := [.ref (G.1 + 63), .int x2]) B (tX10_whomIn hW hr3) cls10 (wf_65 hW) jt_RX10_253 wi_X10_whomIn ws_X10_whomIn rfl (by decide) (Nat.le_refl _) (Nat.le_refl _) rfl (Nat.le_of_ble_eq_true rfl) dX10_look_33 ?_
      refine j_aload_n B dX10_look_36 rfl 0 rfl ?_
      refine j_iload_n B dX10_look_37 rfl 1 rfl ?_
      obtain ⟨r4, hr4, h⟩ := h_bind h
      refine j_cVI (rest := [.int r3, .ref (G.1 + 63), .int x2]) B (tX10_muchIn hW hr4) cls10 (wf_65 hW) jt_RX10_256 wi_X10_muchIn ws_X10_muchIn rfl (by decide) (Nat.le_refl _) (Nat.le_refl _) rfl (Nat.le_of_ble_eq_true rfl) dX10_look_38 ?_
      obtain ⟨r5, hr5, h⟩ := h_bind h
      refine j_cVI (rest := [.int x2]) B (tX10_thickerBy hW hr5) cls10 (wf_65 hW) jt_RX10_373 wi_X10_thickerBy ws_X10_thickerBy rfl (by decide) (Nat.le_refl _) (Nat.le_refl _) rfl (Nat.le_of_ble_eq_true rfl) dX10_look_41 ?_
      refine j_iadd B dX10_look_44 ?_
      refine j_istore_n (L' := [(2, .int (x2 + r5.1)), (0, .ref (G.1 + 63)), (1, .int x1), (3, .int x3)]) B dX10_look_45 rfl (by decide) rfl ?_
      refine j_aload_n B dX10_look_46 rfl 1 rfl ?_
      obtain ⟨r6, hr6, h⟩ := h_bind h
      refine j_cVV (rest := []) B (tX10_keepSill hW hr6) cls10 (wf_65 hW) jt_RX10_376 wi_X10_keepSill ws_X10_keepSill rfl (by decide) (Nat.le_refl _) (Nat.le_refl _) rfl (Nat.le_of_ble_eq_true rfl) dX10_look_47 ?_
      refine j_iinc (v := (x3 + 1)) (L' := [(3, .int (x3 + 1)), (2, .int (x2 + r5.1)), (0, .ref (G.1 + 63)), (1, .int x1)]) B dX10_look_50 3 rfl rfl (by decide) rfl ?_
      refine j_goto (tgt := 16) B dX10_look_53 (by decide) ?_
      refine j_locals [2, 3, 1, 0] rfl ?_
      exact ih (x1) ((x2 + r5.1)) ((x3 + 1)) (r6)  h
def fX10_look (x1 : Int32) (vi0 : VI) : Option (Int32 × VI) := (fX10_in x1 0 65).bind fun r1 => if r1 = true then fX10_look_16  FU x1 0 0 vi0 else some ((-1), vi0)
theorem tX10_look {G : GT} {sv : SV} {vi0 : VI} {vl0 : VL} {ns : Nat} {x1 : Int32} {r : Int32} {vi' : VI} (hW : WF sv ns) (h : fX10_look x1 vi0 = some (r, vi')) : Call G mX10_look 6 0 0 [.ref (G.1 + 63), .int x1] sv vi0 vl0 (QI r sv vi' vl0) := by
  refine j_mk (by decide +kernel) (Nat.le_of_ble_eq_true rfl) (fun Γ B E => ?_)
  show J G Γ 0 0 0 [(0, .ref (G.1 + 63)), (1, .int x1)] [] sv vi0 vl0
  unfold fX10_look at h
  refine j_iload_n B dX10_look_0 rfl 1 rfl ?_
  refine j_iconst B dX10_look_1 (v := 0) (by decide) ?_
  refine j_bipush B dX10_look_2 (v := 65) (by decide) ?_
  obtain ⟨r1, hr1, h⟩ := h_bind h
  refine j_cSI (rest := []) B (tX10_in hr1) jt_RX10_124 wst_X10_in rfl (by decide) (Nat.le_refl _) (Nat.le_refl _) rfl (Nat.le_of_ble_eq_true rfl) dX10_look_4 ?_
  refine j_if_ne (tgt := 12) B dX10_look_7 (by decide) (fun c => ?_) (fun c => ?_)
  · replace h := h_pos (b2i_1 c) h
    refine j_iconst B dX10_look_12 (v := 0) (by decide) ?_
    refine j_istore_n (L' := [(2, .int 0), (0, .ref (G.1 + 63)), (1, .int x1)]) B dX10_look_13 rfl (by decide) rfl ?_
    refine j_iconst B dX10_look_14 (v := 0) (by decide) ?_
    refine j_istore_n (L' := [(3, .int 0), (2, .int 0), (0, .ref (G.1 + 63)), (1, .int x1)]) B dX10_look_15 rfl (by decide) rfl ?_
    refine j_locals [2, 3, 1, 0] rfl ?_
    exact tX10_look_16 B E hW FU (x1) (0) (0) (vi0)  h
  · replace h := h_neg (b2i_0 c) h
    refine j_iconst B dX10_look_10 (v := (-1)) (by decide) ?_
    obtain ⟨e1, e2⟩ := Prod.mk.inj (Option.some.inj h)
    subst e1
    subst e2
    exact j_iret B E rfl dX10_look_11 (Nat.le_refl _) (Nat.le_refl _) ⟨rfl, rfl, rfl, rfl⟩
