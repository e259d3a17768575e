def fX10_readText_177  : Nat → Int32 → Int32 → VI → Option (Int32 × VI)
  | 0, _, _, _ => none
  | F + 1, x1, x2, vi => if inb x1 2 = true then if (vi 77 x1.toNatClampNeg) ≤ x2 then some ((-1), vi) else if inb (61 + x2) 122 = true then if inb ((61 * x1) + x2) 122 = true then if inb (61 + x2) 122 = true then if inb ((61 * x1) + x2) 122 = true then fX10_readText_177  F x1 (x2 + 1) (j_up (j_up vi 78 ((61 * x1) + x2).toNatClampNeg (vi 78 (61 + x2).toNatClampNeg).toInt16.toInt32) 79 ((61 * x1) + x2).toNatClampNeg ((j_up vi 78 ((61 * x1) + x2).toNatClampNeg (vi 78 (61 + x2).toNatClampNeg).toInt16.toInt32) 79 (61 + x2).toNatClampNeg).toInt16.toInt32) else none else none else none else none else none
theorem tX10_readText_177 {G : GT} {sv : SV} {vl0 : VL} {ns : Nat} {Γ : CT} {r : Int32} {vi' : VI} (B : Base G Γ mX10_readText 404 0 0) (E : Ends G Γ 0 0 (QI r sv vi' vl0)) (hW : WF sv ns) : ∀ (F : Nat) (x1 : Int32) (x2 : Int32) (vi : VI), fX10_readText_177  F x1 x2 vi = some (r, vi') → J G Γ 0 0 177 [(0, .ref (G.1 + 63)), (1, .int x1), (2, .int x2)] [] sv vi vl0 := by
  intro F
  induction F with
  | zero =>
    intro x1 x2 vi  h
    cases (show (none : Option (Int32 × VI)) = some (r, vi') from h)
  | succ F ih =>
    intro x1 x2 vi  h
    rw [fX10_readText_177] at h
    refine j_iload_n B dX10_readText_177 rfl 2 rfl ?_
    refine j_aload_n B dX10_readText_178 rfl 0 rfl ?_
    refine gf_RX10_52 B rfl (wf_65 hW) (wf_175 hW) dX10_readText_179 ?_
    refine j_iload_n B dX10_readText_182 rfl 1 rfl ?_
    obtain ⟨b3, h⟩ := h_inb h
    refine j_iald B ((wf_79 hW)) b3 dX10_readText_183 ?_
    refine j_icmp_ge (tgt := 233) B dX10_readText_184 (by decide) (fun c => ?_) (fun c => ?_)
    · replace h := h_pos c h
      refine j_iconst B dX10_readText_233 (v := (-1)) (by decide) ?_
      obtain ⟨e1, e2⟩ := Prod.mk.inj (Option.some.inj h)
      subst e1
      subst e2
      exact j_iret B E rfl dX10_readText_234 (Nat.le_refl _) (Nat.le_refl _) ⟨rfl, rfl, rfl, rfl⟩
    · replace h := h_neg c h
      refine j_aload_n B dX10_readText_187 rfl 0 rfl ?_
      refine gf_RX10_55 B rfl (wf_65 hW) (wf_176 hW) dX10_readText_188 ?_
      refine j_bipush B dX10_readText_191 (v := 61) (by decide) ?_
      refine j_iload_n B dX10_readText_193 rfl 1 rfl ?_
      refine j_imul B dX10_readText_194 ?_
      refine j_iload_n B dX10_readText_195 rfl 2 rfl ?_
      refine j_iadd B dX10_readText_196 ?_
      refine j_aload_n B dX10_readText_197 rfl 0 rfl ?_
      refine gf_RX10_55 B rfl (wf_65 hW) (wf_176 hW) dX10_readText_198 ?_
      refine j_bipush B dX10_readText_201 (v := 61) (by decide) ?_
      refine j_iload_n B dX10_readText_203 rfl 2 rfl ?_
      refine j_iadd B dX10_readText_204 ?_
      obtain ⟨b4, h⟩ := h_inb h
      refine j_sald B ((wf_80 hW)) b4 dX10_readText_205 ?_
      obtain ⟨b5, h⟩ := h_inb h
      refine j_sast B ((wf_80 hW)) b5 dX10_readText_206 ?_
      refine j_aload_n B dX10_readText_207 rfl 0 rfl ?_
      refine gf_RX10_59 B rfl (wf_65 hW) (wf_177 hW) dX10_readText_208 ?_
      refine j_bipush B dX10_readText_211 (v := 61) (by decide) ?_
      refine j_iload_n B dX10_readText_213 rfl 1 rfl ?_
      refine j_imul B dX10_readText_214 ?_
      refine j_iload_n B dX10_readText_215 rfl 2 rfl ?_
      refine j_iadd B dX10_readText_216 ?_
      refine j_aload_n B dX10_readText_217 rfl 0 rfl ?_
      refine gf_RX10_59 B rfl (wf_65 hW) (wf_177 hW) dX10_readText_218 ?_
      refine j_bipush B dX10_readText_221 (v := 61) (by decide) ?_
      refine j_iload_n B dX10_readText_223 rfl 2 rfl ?_
      refine j_iadd B dX10_readText_224 ?_
      obtain ⟨b6, h⟩ := h_inb h
      refine j_sald B ((wf_81 hW)) b6 dX10_readText_225 ?_
      obtain ⟨b7, h⟩ := h_inb h
      refine j_sast B ((wf_81 hW)) b7 dX10_readText_226 ?_
      refine j_iinc (v := (x2 + 1)) (L' := [(2, .int (x2 + 1)), (0, .ref (G.1 + 63)), (1, .int x1)]) B dX10_readText_227 2 rfl rfl (by decide) rfl ?_
      refine j_goto (tgt := 177) B dX10_readText_230 (by decide) ?_
      refine j_locals [1, 2, 0] rfl ?_
      exact ih (x1) ((x2 + 1)) ((j_up (j_up vi 78 ((61 * x1) + x2).toNatClampNeg (vi 78 (61 + x2).toNatClampNeg).toInt16.toInt32) 79 ((61 * x1) + x2).toNatClampNeg ((j_up vi 78 ((61 * x1) + x2).toNatClampNeg (vi 78 (61 + x2).toNatClampNeg).toInt16.toInt32) 79 (61 + x2).toNatClampNeg).toInt16.toInt32))  h
def fX10_readText_105  : Nat → Int32 → Int32 → VI → Option (Int32 × VI)
  | 0, _, _, _ => none
  | F + 1, x1, x2, vi => if (vi 63 20) ≤ x2 then if inb x1 2 = true then fX10_readText_177  FU x1 0 (j_up vi 77 x1.toNatClampNeg (vi 77 (1 : Int32).toNatClampNeg)) else none else if inb (130 + x2) 260 = true then if inb ((130 * x1) + x2) 260 = true then if inb (130 + x2) 260 = true then if inb ((130 * x1) + x2) 260 = true then fX10_readText_105  F x1 (x2 + 1) (j_up (j_up vi 75 ((130 * x1) + x2).toNatClampNeg (vi 75 (130 + x2).toNatClampNeg).toInt8.toInt32) 76 ((130 * x1) + x2).toNatClampNeg ((j_up vi 75 ((130 * x1) + x2).toNatClampNeg (vi 75 (130 + x2).toNatClampNeg).toInt8.toInt32) 76 (130 + x2).toNatClampNeg)) else none else none else none else none
theorem tX10_readText_105 {G : GT} {sv : SV} {vl0 : VL} {ns : Nat} {Γ : CT} {r : Int32} {vi' : VI} (B : Base G Γ mX10_readText 404 0 0) (E : Ends G Γ 0 0 (QI r sv vi' vl0)) (hW : WF sv ns) : ∀ (F : Nat) (x1 : Int32) (x2 : Int32) (vi : VI), fX10_readText_105  F x1 x2 vi = some (r, vi') → J G Γ 0 0 105 [(0, .ref (G.1 + 63)), (1, .int x1), (2, .int x2)] [] sv vi vl0 := by
  intro F
  induction F with
  | zero =>
    intro x1 x2 vi  h
    cases (show (none : Option (Int32 × VI)) = some (r, vi') from h)
  | succ F ih =>
    intro x1 x2 vi  h
    rw [fX10_readText_105] at h
    refine j_iload_n B dX10_readText_105 rfl 2 rfl ?_
    refine j_aload_n B dX10_readText_106 rfl 0 rfl ?_
    refine gf_RX10_189 B rfl (wf_65 hW) dX10_readText_107 ?_
    refine j_icmp_ge (tgt := 163) B dX10_readText_110 (by decide) (fun c => ?_) (fun c => ?_)
    · replace h := h_pos c h
      refine j_aload_n B dX10_readText_163 rfl 0 rfl ?_
      refine gf_RX10_52 B rfl (wf_65 hW) (wf_175 hW) dX10_readText_164 ?_
      refine j_iload_n B dX10_readText_167 rfl 1 rfl ?_
      refine j_aload_n B dX10_readText_168 rfl 0 rfl ?_
      refine gf_RX10_52 B rfl (wf_65 hW) (wf_175 hW) dX10_readText_169 ?_
      refine j_iconst B dX10_readText_172 (v := 1) (by decide) ?_
      refine j_iald B ((wf_79 hW)) (vp_in_iff.mpr ⟨by decide, by decide⟩) dX10_readText_173 ?_
      obtain ⟨b2, h⟩ := h_inb h
      refine j_iast B ((wf_79 hW)) b2 dX10_readText_174 ?_
      refine j_iconst B dX10_readText_175 (v := 0) (by decide) ?_
      refine j_istore_n (L' := [(2, .int 0), (0, .ref (G.1 + 63)), (1, .int x1)]) B dX10_readText_176 rfl (by decide) rfl ?_
      refine j_locals [1, 2, 0] rfl ?_
      exact tX10_readText_177 B E hW FU (x1) (0) ((j_up vi 77 x1.toNatClampNeg (vi 77 (1 : Int32).toNatClampNeg)))  h
    · replace h := h_neg c h
      refine j_aload_n B dX10_readText_113 rfl 0 rfl ?_
      refine gf_RX10_46 B rfl (wf_65 hW) (wf_173 hW) dX10_readText_114 ?_
      refine j_sipush B dX10_readText_117 (v := 130) (by decide) ?_
      refine j_iload_n B dX10_readText_120 rfl 1 rfl ?_
      refine j_imul B dX10_readText_121 ?_
      refine j_iload_n B dX10_readText_122 rfl 2 rfl ?_
      refine j_iadd B dX10_readText_123 ?_
      refine j_aload_n B dX10_readText_124 rfl 0 rfl ?_
      refine gf_RX10_46 B rfl (wf_65 hW) (wf_173 hW) dX10_readText_125 ?_
      refine j_sipush B dX10_readText_128 (v := 130) (by decide) ?_
      refine j_iload_n B dX10_readText_131 rfl 2 rfl ?_
      refine j_iadd B dX10_readText_132 ?_
      obtain ⟨b8, h⟩ := h_inb h
      refine j_bald B ((wf_77 hW)) b8 dX10_readText_133 ?_
      obtain ⟨b9, h⟩ := h_inb h
      refine j_bast B ((wf_77 hW)) b9 dX10_readText_134 ?_
      refine j_aload_n B dX10_readText_135 rfl 0 rfl ?_
      refine gf_RX10_49 B rfl (wf_65 hW) (wf_174 hW) dX10_readText_136 ?_
      refine j_sipush B dX10_readText_139 (v := 130) (by decide) ?_
      refine j_iload_n B dX10_readText_142 rfl 1 rfl ?_
      refine j_imul B dX10_readText_143 ?_
      refine j_iload_n B dX10_readText_144 rfl 2 rfl ?_
      refine j_iadd B dX10_readText_145 ?_
      refine j_aload_n B dX10_readText_146 rfl 0 rfl ?_
      refine gf_RX10_49 B rfl (wf_65 hW) (wf_174 hW) dX10_readText_147 ?_
      refine j_sipush B dX10_readText_150 (v := 130) (by decide) ?_
      refine j_iload_n B dX10_readText_153 rfl 2 rfl ?_
      refine j_iadd B dX10_readText_154 ?_
      obtain ⟨b10, h⟩ := h_inb h
      refine j_iald B ((wf_78 hW)) b10 dX10_readText_155 ?_
      obtain ⟨b11, h⟩ := h_inb h
      refine j_iast B ((wf_78 hW)) b11 dX10_readText_156 ?_
      refine j_iinc (v := (x2 + 1)) (L' := [(2, .int (x2 + 1)), (0, .ref (G.1 + 63)), (1, .int x1)]) B dX10_readText_157 2 rfl rfl (by decide) rfl ?_
      refine j_goto (tgt := 105) B dX10_readText_160 (by decide) ?_
      refine j_locals [1, 2, 0] rfl ?_
      exact ih (x1) ((x2 + 1)) ((j_up (j_up vi 75 ((130 * x1) + x2).toNatClampNeg (vi 75 (130 + x2).toNatClampNeg).toInt8.toInt32) 76 ((130 * x1) + x2).toNatClampNeg ((j_up vi 75 ((130 * x1) + x2).toNatClampNeg (vi 75 (130 + x2).toNatClampNeg).toInt8.toInt32) 76 (130 + x2).toNatClampNeg)))  h
def fX10_readText_86  (x1 : Int32) (vi : VI) : Option (Int32 × VI) := if ((j_up vi 63 16 0) 63 18) < 0 then fX10_readText_105  FU x1 0 (j_up vi 63 16 0) else some (((j_up vi 63 16 0) 63 18), (j_up vi 63 16 0))
theorem tX10_readText_86 {G : GT} {sv : SV} {vl0 : VL} {ns : Nat} {Γ : CT} {r : Int32} {vi' : VI} (B : Base G Γ mX10_readText 404 0 0) (E : Ends G Γ 0 0 (QI r sv vi' vl0)) (hW : WF sv ns) : ∀ (x1 : Int32) (vi : VI), fX10_readText_86  x1 vi = some (r, vi') → J G Γ 0 0 86 [(0, .ref (G.1 + 63)), (1, .int x1)] [] sv vi vl0 := by
  intro x1 vi  h
  unfold fX10_readText_86 at h
  refine j_aload_n B dX10_readText_86 rfl 0 rfl ?_
  refine j_iconst B dX10_readText_87 (v := 0) (by decide) ?_
  refine pf_RX10_180 B rfl (wf_65 hW) dX10_readText_88 ?_
  refine j_aload_n B dX10_readText_91 rfl 0 rfl ?_
  refine gf_RX10_186 B rfl (wf_65 hW) dX10_readText_92 ?_
  refine j_if_lt (tgt := 103) B dX10_readText_95 (by decide) (fun c => ?_) (fun c => ?_)
  · replace h := h_pos c h
    refine j_iconst B dX10_readText_103 (v := 0) (by decide) ?_
    refine j_istore_n (L' := [(2, .int 0), (0, .ref (G.1 + 63)), (1, .int x1)]) B dX10_readText_104 rfl (by decide) rfl ?_
    refine j_locals [1, 2, 0] rfl ?_
    exact tX10_readText_105 B E hW FU (x1) (0) ((j_up vi 63 16 0))  h
  · replace h := h_neg c h
    refine j_aload_n B dX10_readText_98 rfl 0 rfl ?_
    refine gf_RX10_186 B rfl (wf_65 hW) dX10_readText_99 ?_
    obtain ⟨e1, e2⟩ := Prod.mk.inj (Option.some.inj h)
    subst e1
    subst e2
    exact j_iret B E rfl dX10_readText_102 (Nat.le_refl _) (Nat.le_refl _) ⟨rfl, rfl, rfl, rfl⟩
def fX10_readText_64  (x1 : Int32) (vi : VI) : Option (Int32 × VI) := if 0 ≤ (vi 63 18) then fX10_readText_86  x1 vi else if (vi 63 16) ≤ (vi 63 17) then fX10_readText_86  x1 vi else (fX10_wrong vi).bind fun r12 => fX10_readText_86  x1 r12
theorem tX10_readText_64 {G : GT} {sv : SV} {vl0 : VL} {ns : Nat} {Γ : CT} {r : Int32} {vi' : VI} (B : Base G Γ mX10_readText 404 0 0) (E : Ends G Γ 0 0 (QI r sv vi' vl0)) (hW : WF sv ns) : ∀ (x1 : Int32) (vi : VI), fX10_readText_64  x1 vi = some (r, vi') → J G Γ 0 0 64 [(0, .ref (G.1 + 63)), (1, .int x1)] [] sv vi vl0 := by
  intro x1 vi  h
  unfold fX10_readText_64 at h
  refine j_aload_n B dX10_readText_64 rfl 0 rfl ?_
  refine gf_RX10_186 B rfl (wf_65 hW) dX10_readText_65 ?_
  refine j_if_ge (tgt := 86) B dX10_readText_68 (by decide) (fun c => ?_) (fun c => ?_)
  · replace h := h_pos c h
    refine j_locals [0, 1] rfl ?_
    exact tX10_readText_86 B E hW (x1) (vi)  h
  · replace h := h_neg c h
    refine j_aload_n B dX10_readText_71 rfl 0 rfl ?_
    refine gf_RX10_183 B rfl (wf_65 hW) dX10_readText_72 ?_
    refine j_aload_n B dX10_readText_75 rfl 0 rfl ?_
    refine gf_RX10_180 B rfl (wf_65 hW) dX10_readText_76 ?_
    refine j_icmp_ge (tgt := 86) B dX10_readText_79 (by decide) (fun c => ?_) (fun c => ?_)
    · replace h := h_pos c h
      refine j_locals [0, 1] rfl ?_
      exact tX10_readText_86 B E hW (x1) (vi)  h
    · replace h := h_neg c h
      refine j_aload_n B dX10_readText_82 rfl 0 rfl ?_
      obtain ⟨r12, hr12, h⟩ := h_bind h
      refine j_cVV (rest := []) B (tX10_wrong hW hr12) cls10 (wf_65 hW) jt_RX10_195 wi_X10_wrong ws_X10_wrong rfl (by decide) (Nat.le_refl _) (Nat.le_refl _) rfl (Nat.le_of_ble_eq_true rfl) dX10_readText_83 ?_
      refine j_locals [0, 1] rfl ?_
      exact tX10_readText_86 B E hW (x1) (r12)  h
def fX10_readText_31  : Nat → Int32 → VI → Option (Int32 × VI)
  | 0, _, _ => none
  | F + 1, x1, vi => if 0 ≤ (vi 63 18) then fX10_readText_64  x1 vi else (fX10_looksOn vi).bind fun r13 => if r13 = 59 then (fX10_line (j_up vi 63 17 ((vi 63 17) + 1))).bind fun r14 => fX10_readText_31  F x1 r14 else fX10_readText_64  x1 vi
theorem tX10_readText_31 {G : GT} {sv : SV} {vl0 : VL} {ns : Nat} {Γ : CT} {r : Int32} {vi' : VI} (B : Base G Γ mX10_readText 404 0 0) (E : Ends G Γ 0 0 (QI r sv vi' vl0)) (hW : WF sv ns) : ∀ (F : Nat) (x1 : Int32) (vi : VI), fX10_readText_31  F x1 vi = some (r, vi') → J G Γ 0 0 31 [(0, .ref (G.1 + 63)), (1, .int x1)] [] sv vi vl0 := by
  intro F
  induction F with
  | zero =>
    intro x1 vi  h
    cases (show (none : Option (Int32 × VI)) = some (r, vi') from h)
  | succ F ih =>
    intro x1 vi  h
    rw [fX10_readText_31] at h
    refine j_aload_n B dX10_readText_31 rfl 0 rfl ?_
    refine gf_RX10_186 B rfl (wf_65 hW) dX10_readText_32 ?_
    refine j_if_ge (tgt := 64) B dX10_readText_35 (by decide) (fun c => ?_) (fun c => ?_)
    · replace h := h_pos c h
      refine j_locals [0, 1] rfl ?_
      exact tX10_readText_64 B E hW (x1) (vi)  h
    · replace h := h_neg c h
      refine j_aload_n B dX10_readText_38 rfl 0 rfl ?_
      obtain ⟨r13, hr13, h⟩ := h_bind h
      refine j_cVI (rest := []) B (tX10_looksOn hW hr13) cls10 (wf_65 hW) jt_RX10_198 wi_X10_looksOn ws_X10_looksOn rfl (by decide) (Nat.le_refl _) (Nat.le_refl _) rfl (Nat.le_of_ble_eq_true rfl) dX10_readText_39 ?_
      refine j_bipush B dX10_readText_42 (v := 59) (by decide) ?_
      refine j_icmp_ne (tgt := 64) B dX10_readText_44 (by decide) (fun c => ?_) (fun c => ?_)
      · replace h := h_neg c h
        refine j_locals [0, 1] rfl ?_
        exact tX10_readText_64 B E hW (x1) (vi)  h
      · replace h := h_pos c h
        refine j_aload_n B dX10_readText_47 rfl 0 rfl ?_
        refine j_dup B dX10_readText_48 rfl ?_
        refine gf_RX10_183 B rfl (wf_65 hW) dX10_readText_49 ?_
        refine j_iconst B dX10_readText_52 (v := 1) (by decide) ?_
        refine j_iadd B dX10_readText_53 ?_
        refine pf_RX10_183 B rfl (wf_65 hW) dX10_readText_54 ?_
        refine j_aload_n B dX10_readText_57 rfl 0 rfl ?_
        obtain ⟨r14, hr14, h⟩ := h_bind h
        refine j_cVV (rest := []) B (tX10_line hW hr14) cls10 (wf_65 hW) jt_RX10_234 wi_X10_line ws_X10_line rfl (by decide) (Nat.le_refl _) (Nat.le_refl _) rfl (Nat.le_of_ble_eq_true rfl) dX10_readText_58 ?_
        refine j_goto (tgt := 31) B dX10_readText_61 (by decide) ?_
        refine j_locals [0, 1] rfl ?_
        exact ih (x1) (r14)  h
def fX10_readText (x1 : Int32) (vi0 : VI) : Option (Int32 × VI) := (fX10_line (j_up (j_up (j_up (j_up (j_up vi0 63 17 0) 63 18 (-1)) 63 19 0) 63 20 0) 77 (1 : Int32).toNatClampNeg 0)).bind fun r1 => fX10_readText_31  FU x1 r1
theorem tX10_readText {G : GT} {sv : SV} {vi0 : VI} {vl0 : VL} {ns : Nat} {x1 : Int32} {r : Int32} {vi' : VI} (hW : WF sv ns) (h : fX10_readText x1 vi0 = some (r, vi')) : Call G mX10_readText 404 0 0 [.ref (G.1 + 63), .int x1] sv vi0 vl0 (QI r sv vi' vl0) := by
  refine j_mk (by decide +kernel) (Nat.le_of_ble_eq_true rfl) (fun Γ B E => ?_)
  show J G Γ 0 0 0 [(0, .ref (G.1 + 63)), (1, .int x1)] [] sv vi0 vl0
  unfold fX10_readText at h
  refine j_aload_n B dX10_readText_0 rfl 0 rfl ?_
  refine j_iconst B dX10_readText_1 (v := 0) (by decide) ?_
  refine pf_RX10_183 B rfl (wf_65 hW) dX10_readText_2 ?_
  refine j_aload_n B dX10_readText_5 rfl 0 rfl ?_
  refine j_iconst B dX10_readText_6 (v := (-1)) (by decide) ?_
  refine pf_RX10_186 B rfl (wf_65 hW) dX10_readText_7 ?_
  refine j_aload_n B dX10_readText_10 rfl 0 rfl ?_
  refine j_iconst B dX10_readText_11 (v := 0) (by decide) ?_
  refine pf_RX10_192 B rfl (wf_65 hW) dX10_readText_12 ?_
  refine j_aload_n B dX10_readText_15 rfl 0 rfl ?_
  refine j_iconst B dX10_readText_16 (v := 0) (by decide) ?_
  refine pf_RX10_189 B rfl (wf_65 hW) dX10_readText_17 ?_
  refine j_aload_n B dX10_readText_20 rfl 0 rfl ?_
  refine gf_RX10_52 B rfl (wf_65 hW) (wf_175 hW) dX10_readText_21 ?_
  refine j_iconst B dX10_readText_24 (v := 1) (by decide) ?_
  refine j_iconst B dX10_readText_25 (v := 0) (by decide) ?_
  refine j_iast B ((wf_79 hW)) (vp_in_iff.mpr ⟨by decide, by decide⟩) dX10_readText_26 ?_
  refine j_aload_n B dX10_readText_27 rfl 0 rfl ?_
  obtain ⟨r1, hr1, h⟩ := h_bind h
  refine j_cVV (rest := []) B (tX10_line hW hr1) cls10 (wf_65 hW) jt_RX10_234 wi_X10_line ws_X10_line rfl (by decide) (Nat.le_refl _) (Nat.le_refl _) rfl (Nat.le_of_ble_eq_true rfl) dX10_readText_28 ?_
  refine j_locals [0, 1] rfl ?_
  exact tX10_readText_31 B E hW FU (x1) (r1)  h
def fX10_twoOf_226  : Option (Int32) := some (1)
theorem tX10_twoOf_226 {G : GT} {sv : SV} {vi0 : VI} {vl0 : VL} {Γ : CT} {r : Int32} (B : Base G Γ mX10_twoOf 0 0 0) (E : Ends G Γ 0 0 (QI r sv vi0 vl0)) : fX10_twoOf_226   = some (r) → J G Γ 0 0 226 [] [] sv vi0 vl0 := by
  intro   h
  unfold fX10_twoOf_226 at h
  refine j_iconst B dX10_twoOf_226 (v := 1) (by decide) ?_
  refine j_goto (tgt := 231) B dX10_twoOf_227 (by decide) ?_
  have e1 := Option.some.inj h
  subst e1
  exact j_iret B E rfl dX10_twoOf_231 (Nat.le_refl _) (Nat.le_refl _) ⟨rfl, rfl, rfl, rfl⟩
def fX10_twoOf_163  : Option (Int32) := some (0)
theorem tX10_twoOf_163 {G : GT} {sv : SV} {vi0 : VI} {vl0 : VL} {Γ : CT} {r : Int32} (B : Base G Γ mX10_twoOf 0 0 0) (E : Ends G Γ 0 0 (QI r sv vi0 vl0)) : fX10_twoOf_163   = some (r) → J G Γ 0 0 163 [] [] sv vi0 vl0 := by
  intro   h
  unfold fX10_twoOf_163 at h
  refine j_iconst B dX10_twoOf_163 (v := 0) (by decide) ?_
  refine j_goto (tgt := 170) B dX10_twoOf_164 (by decide) ?_
  have e1 := Option.some.inj h
  subst e1
  exact j_iret B E rfl dX10_twoOf_170 (Nat.le_refl _) (Nat.le_refl _) ⟨rfl, rfl, rfl, rfl⟩
def fX10_twoOf (x0 : Int32) (x1 : Int32) (x2 : Int32)  : Option (Int32) := if x0 = 37 then if x2 = 0 then fX10_twoOf_163   else if x2 = (-1) then fX10_twoOf_163   else if x2 = 0 then none else some ((x1 - x1 / x2 * x2)) else if x0 = 38 then if x1 = 0 then some (0) else if x2 = 0 then some (0) else some (1) else if x0 = 39 then if x1 = 0 then if x2 = 0 then some (0) else fX10_twoOf_226   else fX10_twoOf_226   else if x0 = 40 then if x1 = 0 then if x2 = 0 then some (0) else fX10_twoOf_226   else fX10_twoOf_226   else if x0 = 41 then if x1 = 0 then if x2 = 0 then some (0) else fX10_twoOf_226   else fX10_twoOf_226   else if x0 = 42 then some ((x1 * x2)) else if x0 = 43 then some ((x1 + x2)) else if x0 = 44 then if x1 = 0 then if x2 = 0 then some (0) else fX10_twoOf_226   else fX10_twoOf_226   else if x0 = 45 then some ((x1 - x2)) else if x0 = 46 then if x1 = 0 then if x2 = 0 then some (0) else fX10_twoOf_226   else fX10_twoOf_226   else if x0 = 47 then if x2 = 0 then some (0) else if x2 = (-1) then some ((-x1)) else if x2 = 0 then none else some ((x1 / x2)) else if x0 = 48 then if x1 = 0 then if x2 = 0 then some (0) else fX10_twoOf_226   else fX10_twoOf_226   else if x0 = 49 then if x1 = 0 then if x2 = 0 then some (0) else fX10_twoOf_226   else fX10_twoOf_226   else if x0 = 50 then if x1 = 0 then if x2 = 0 then some (0) else fX10_twoOf_226   else fX10_twoOf_226   else if x0 = 51 then if x1 = 0 then if x2 = 0 then some (0) else fX10_twoOf_226   else fX10_twoOf_226   else if x0 = 52 then if x1 = 0 then if x2 = 0 then some (0) else fX10_twoOf_226   else fX10_twoOf_226   else if x0 = 53 then if x1 = 0 then if x2 = 0 then some (0) else fX10_twoOf_226   else fX10_twoOf_226   else if x0 = 54 then if x1 = 0 then if x2 = 0 then some (0) else fX10_twoOf_226   else fX10_twoOf_226   else if x0 = 55 then if x1 = 0 then if x2 = 0 then some (0) else fX10_twoOf_226   else fX10_twoOf_226   else if x0 = 56 then if x1 = 0 then if x2 = 0 then some (0) else fX10_twoOf_226   else fX10_twoOf_226   else if x0 = 57 then if x1 = 0 then if x2 = 0 then some (0) else fX10_twoOf_226   else fX10_twoOf_226   else if x0 = 58 then if x1 = 0 then if x2 = 0 then some (0) else fX10_twoOf_226   else fX10_twoOf_226   else if x0 = 59 then if x1 = 0 then if x2 = 0 then some (0) else fX10_twoOf_226   else fX10_twoOf_226   else if x0 = 60 then if x2 ≤ x1 then some (0) else some (1) else if x0 = 61 then if x1 = x2 then some (1) else some (0) else if x0 = 62 then if x1 ≤ x2 then some (0) else some (1) else if x1 = 0 then if x2 = 0 then some (0) else fX10_twoOf_226   else fX10_twoOf_226  
theorem tX10_twoOf {G : GT} {sv : SV} {vi0 : VI} {vl0 : VL} {x0 : Int32} {x1 : Int32} {x2 : Int32} {r : Int32} (h : fX10_twoOf x0 x1 x2 = some (r)) : Call G mX10_twoOf 0 0 0 [.int x0, .int x1, .int x2] sv vi0 vl0 (QI r sv vi0 vl0) := by
  refine j_mk (by decide +kernel) (Nat.le_of_ble_eq_true rfl) (fun Γ B E => ?_)
  show J G Γ 0 0 0 [(0, .int x0), (1, .int x1), (2, .int x2)] [] sv vi0 vl0
  unfold fX10_twoOf at h
  refine j_iload_n B dX10_twoOf_0 rfl 0 rfl ?_
  by_cases c0 : x0 = 37
  · replace h := h_pos c0 h
    refine j_tableIn (off := 153) (tgt := 154) B dX10_twoOf_1 (by rw [c0]; decide) (by rw [c0]; decide) (by rw [c0]; decide) (by decide) ?_
    refine j_iload_n B dX10_twoOf_154 rfl 2 rfl ?_
    refine j_if_eq (tgt := 163) B dX10_twoOf_155 (by decide) (fun c => ?_) (fun c => ?_)
    · replace h := h_pos c h
      refine j_locals [] rfl ?_
      exact tX10_twoOf_163 B E    h
    · replace h := h_neg c h
      refine j_iload_n B dX10_twoOf_158 rfl 2 rfl ?_
      refine j_iconst B dX10_twoOf_159 (v := (-1)) (by decide) ?_
      refine j_icmp_ne (tgt := 167) B dX10_twoOf_160 (by decide) (fun c => ?_) (fun c => ?_)
      · replace h := h_neg c h
        refine j_iload_n B dX10_twoOf_167 rfl 1 rfl ?_
        refine j_iload_n B dX10_twoOf_168 rfl 2 rfl ?_
        obtain ⟨b1, h⟩ := h_nz h
        refine j_irem B dX10_twoOf_169 b1 ?_
        have e1 := Option.some.inj h
        subst e1
        exact j_iret B E rfl dX10_twoOf_170 (Nat.le_refl _) (Nat.le_refl _) ⟨rfl, rfl, rfl, rfl⟩
      · replace h := h_pos c h
        refine j_locals [] rfl ?_
        exact tX10_twoOf_163 B E    h
  replace h := h_neg c0 h
  by_cases c1 : x0 = 38
  · replace h := h_pos c1 h
    refine j_tableIn (off := 203) (tgt := 204) B dX10_twoOf_1 (by rw [c1]; decide) (by rw [c1]; decide) (by rw [c1]; decide) (by decide) ?_
    refine j_iload_n B dX10_twoOf_204 rfl 1 rfl ?_
    refine j_if_eq (tgt := 216) B dX10_twoOf_205 (by decide) (fun c => ?_) (fun c => ?_)
    · replace h := h_pos c h
      refine j_iconst B dX10_twoOf_216 (v := 0) (by decide) ?_
      have e1 := Option.some.inj h
      subst e1
      exact j_iret B E rfl dX10_twoOf_217 (Nat.le_refl _) (Nat.le_refl _) ⟨rfl, rfl, rfl, rfl⟩
    · replace h := h_neg c h
      refine j_iload_n B dX10_twoOf_208 rfl 2 rfl ?_
      refine j_if_eq (tgt := 216) B dX10_twoOf_209 (by decide) (fun c => ?_) (fun c => ?_)
      · replace h := h_pos c h
        refine j_iconst B dX10_twoOf_216 (v := 0) (by decide) ?_
        have e1 := Option.some.inj h
        subst e1
        exact j_iret B E rfl dX10_twoOf_217 (Nat.le_refl _) (Nat.le_refl _) ⟨rfl, rfl, rfl, rfl⟩
      · replace h := h_neg c h
        refine j_iconst B dX10_twoOf_212 (v := 1) (by decide) ?_
        refine j_goto (tgt := 217) B dX10_twoOf_213 (by decide) ?_
        have e1 := Option.some.inj h
        subst e1
        exact j_iret B E rfl dX10_twoOf_217 (Nat.le_refl _) (Nat.le_refl _) ⟨rfl, rfl, rfl, rfl⟩
  replace h := h_neg c1 h
  by_cases c2 : x0 = 39
  · replace h := h_pos c2 h
    refine j_tableIn (off := 217) (tgt := 218) B dX10_twoOf_1 (by rw [c2]; decide) (by rw [c2]; decide) (by rw [c2]; decide) (by decide) ?_
    refine j_iload_n B dX10_twoOf_218 rfl 1 rfl ?_
    refine j_if_ne (tgt := 226) B dX10_twoOf_219 (by decide) (fun c => ?_) (fun c => ?_)
    · replace h := h_neg c h
      refine j_locals [] rfl ?_
      exact tX10_twoOf_226 B E    h
    · replace h := h_pos c h
      refine j_iload_n B dX10_twoOf_222 rfl 2 rfl ?_
      refine j_if_eq (tgt := 230) B dX10_twoOf_223 (by decide) (fun c => ?_) (fun c => ?_)
      · replace h := h_pos c h
        refine j_iconst B dX10_twoOf_230 (v := 0) (by decide) ?_
        have e1 := Option.some.inj h
        subst e1
        exact j_iret B E rfl dX10_twoOf_231 (Nat.le_refl _) (Nat.le_refl _) ⟨rfl, rfl, rfl, rfl⟩
      · replace h := h_neg c h
        refine j_locals [] rfl ?_
        exact tX10_twoOf_226 B E    h
  replace h := h_neg c2 h
  by_cases c3 : x0 = 40
  · replace h := h_pos c3 h
    refine j_tableIn (off := 217) (tgt := 218) B dX10_twoOf_1 (by rw [c3]; decide) (by rw [c3]; decide) (by rw [c3]; decide) (by decide) ?_
    refine j_iload_n B dX10_twoOf_218 rfl 1 rfl ?_
    refine j_if_ne (tgt := 226) B dX10_twoOf_219 (by decide) (fun c => ?_) (fun c => ?_)
    · replace h := h_neg c h
      refine j_locals [] rfl ?_
      exact tX10_twoOf_226 B E    h
    · replace h := h_pos c h
      refine j_iload_n B dX10_twoOf_222 rfl 2 rfl ?_
      refine j_if_eq (tgt := 230) B dX10_twoOf_223 (by decide) (fun c => ?_) (fun c => ?_)
      · replace h := h_pos c h
        refine j_iconst B dX10_twoOf_230 (v := 0) (by decide) ?_
        have e1 := Option.some.inj h
        subst e1
        exact j_iret B E rfl dX10_twoOf_231 (Nat.le_refl _) (Nat.le_refl _) ⟨rfl, rfl, rfl, rfl⟩
      · replace h := h_neg c h
        refine j_locals [] rfl ?_
        exact tX10_twoOf_226 B E    h
  replace h := h_neg c3 h
  by_cases c4 : x0 = 41
  · replace h := h_pos c4 h
    refine j_tableIn (off := 217) (tgt := 218) B dX10_twoOf_1 (by rw [c4]; decide) (by rw [c4]; decide) (by rw [c4]; decide) (by decide) ?_
    refine j_iload_n B dX10_twoOf_218 rfl 1 rfl ?_
    refine j_if_ne (tgt := 226) B dX10_twoOf_219 (by decide) (fun c => ?_) (fun c => ?_)
    · replace h := h_neg c h
      refine j_locals [] rfl ?_
      exact tX10_twoOf_226 B E    h
    · replace h := h_pos c h
      refine j_iload_n B dX10_twoOf_222 rfl 2 rfl ?_
      refine j_if_eq (tgt := 230) B dX10_twoOf_223 (by decide) (fun c => ?_) (fun c => ?_)
      · replace h := h_pos c h
        refine j_iconst B dX10_twoOf_230 (v := 0) (by decide) ?_
        have e1 := Option.some.inj h
        subst e1
        exact j_iret B E rfl dX10_twoOf_231 (Nat.le_refl _) (Nat.le_refl _) ⟨rfl, rfl, rfl, rfl⟩
      · replace h := h_neg c h
        refine j_locals [] rfl ?_
        exact tX10_twoOf_226 B E    h
  replace h := h_neg c4 h
  by_cases c5 : x0 = 42
  · replace h := h_pos c5 h
    refine j_tableIn (off := 127) (tgt := 128) B dX10_twoOf_1 (by rw [c5]; decide) (by rw [c5]; decide) (by rw [c5]; decide) (by decide) ?_
    refine j_iload_n B dX10_twoOf_128 rfl 1 rfl ?_
    refine j_iload_n B dX10_twoOf_129 rfl 2 rfl ?_
    refine j_imul B dX10_twoOf_130 ?_
    have e1 := Option.some.inj h
    subst e1
    exact j_iret B E rfl dX10_twoOf_131 (Nat.le_refl _) (Nat.le_refl _) ⟨rfl, rfl, rfl, rfl⟩
  replace h := h_neg c5 h
  by_cases c6 : x0 = 43
  · replace h := h_pos c6 h
    refine j_tableIn (off := 119) (tgt := 120) B dX10_twoOf_1 (by rw [c6]; decide) (by rw [c6]; decide) (by rw [c6]; decide) (by decide) ?_
    refine j_iload_n B dX10_twoOf_120 rfl 1 rfl ?_
    refine j_iload_n B dX10_twoOf_121 rfl 2 rfl ?_
    refine j_iadd B dX10_twoOf_122 ?_
    have e1 := Option.some.inj h
    subst e1
    exact j_iret B E rfl dX10_twoOf_123 (Nat.le_refl _) (Nat.le_refl _) ⟨rfl, rfl, rfl, rfl⟩
  replace h := h_neg c6 h
  by_cases c7 : x0 = 44
  · replace h := h_pos c7 h
    refine j_tableIn (off := 217) (tgt := 218) B dX10_twoOf_1 (by rw [c7]; decide) (by rw [c7]; decide) (by rw [c7]; decide) (by decide) ?_
    refine j_iload_n B dX10_twoOf_218 rfl 1 rfl ?_
    refine j_if_ne (tgt := 226) B dX10_twoOf_219 (by decide) (fun c => ?_) (fun c => ?_)
    · replace h := h_neg c h
      refine j_locals [] rfl ?_
      exact tX10_twoOf_226 B E    h
    · replace h := h_pos c h
      refine j_iload_n B dX10_twoOf_222 rfl 2 rfl ?_
      refine j_if_eq (tgt := 230) B dX10_twoOf_223 (by decide) (fun c => ?_) (fun c => ?_)
      · replace h := h_pos c h
        refine j_iconst B dX10_twoOf_230 (v := 0) (by decide) ?_
        have e1 := Option.some.inj h
        subst e1
        exact j_iret B E rfl dX10_twoOf_231 (Nat.le_refl _) (Nat.le_refl _) ⟨rfl, rfl, rfl, rfl⟩
      · replace h := h_neg c h
        refine j_locals [] rfl ?_
        exact tX10_twoOf_226 B E    h
  replace h := h_neg c7 h
  by_cases c8 : x0 = 45
  · replace h := h_pos c8 h
    refine j_tableIn (off := 123) (tgt := 124) B dX10_twoOf_1 (by rw [c8]; decide) (by rw [c8]; decide) (by rw [c8]; decide) (by decide) ?_
    refine j_iload_n B dX10_twoOf_124 rfl 1 rfl ?_
    refine j_iload_n B dX10_twoOf_125 rfl 2 rfl ?_
    refine j_isub B dX10_twoOf_126 ?_
    have e1 := Option.some.inj h
    subst e1
    exact j_iret B E rfl dX10_twoOf_127 (Nat.le_refl _) (Nat.le_refl _) ⟨rfl, rfl, rfl, rfl⟩
  replace h := h_neg c8 h
  by_cases c9 : x0 = 46
  · replace h := h_pos c9 h
    refine j_tableIn (off := 217) (tgt := 218) B dX10_twoOf_1 (by rw [c9]; decide) (by rw [c9]; decide) (by rw [c9]; decide) (by decide) ?_
    refine j_iload_n B dX10_twoOf_218 rfl 1 rfl ?_
    refine j_if_ne (tgt := 226) B dX10_twoOf_219 (by decide) (fun c => ?_) (fun c => ?_)
    · replace h := h_neg c h
      refine j_locals [] rfl ?_
      exact tX10_twoOf_226 B E    h
    · replace h := h_pos c h
      refine j_iload_n B dX10_twoOf_222 rfl 2 rfl ?_
      refine j_if_eq (tgt := 230) B dX10_twoOf_223 (by decide) (fun c => ?_) (fun c => ?_)
      · replace h := h_pos c h
        refine j_iconst B dX10_twoOf_230 (v := 0) (by decide) ?_
        have e1 := Option.some.inj h
        subst e1
        exact j_iret B E rfl dX10_twoOf_231 (Nat.le_refl _) (Nat.le_refl _) ⟨rfl, rfl, rfl, rfl⟩
      · replace h := h_neg c h
        refine j_locals [] rfl ?_
        exact tX10_twoOf_226 B E    h
  replace h := h_neg c9 h
  by_cases c10 : x0 = 47
  · replace h := h_pos c10 h
    refine j_tableIn (off := 131) (tgt := 132) B dX10_twoOf_1 (by rw [c10]; decide) (by rw [c10]; decide) (by rw [c10]; decide) (by decide) ?_
    refine j_iload_n B dX10_twoOf_132 rfl 2 rfl ?_
    refine j_if_ne (tgt := 140) B dX10_twoOf_133 (by decide) (fun c => ?_) (fun c => ?_)
    · replace h := h_neg c h
      refine j_iload_n B dX10_twoOf_140 rfl 2 rfl ?_
      refine j_iconst B dX10_twoOf_141 (v := (-1)) (by decide) ?_
      refine j_icmp_ne (tgt := 150) B dX10_twoOf_142 (by decide) (fun c => ?_) (fun c => ?_)
      · replace h := h_neg c h
        refine j_iload_n B dX10_twoOf_150 rfl 1 rfl ?_
        refine j_iload_n B dX10_twoOf_151 rfl 2 rfl ?_
        obtain ⟨b2, h⟩ := h_nz h
        refine j_idiv B dX10_twoOf_152 b2 ?_
        have e1 := Option.some.inj h
        subst e1
        exact j_iret B E rfl dX10_twoOf_153 (Nat.le_refl _) (Nat.le_refl _) ⟨rfl, rfl, rfl, rfl⟩
      · replace h := h_pos c h
        refine j_iload_n B dX10_twoOf_145 rfl 1 rfl ?_
        refine j_ineg B dX10_twoOf_146 ?_
        refine j_goto (tgt := 153) B dX10_twoOf_147 (by decide) ?_
        have e1 := Option.some.inj h
        subst e1
        exact j_iret B E rfl dX10_twoOf_153 (Nat.le_refl _) (Nat.le_refl _) ⟨rfl, rfl, rfl, rfl⟩
    · replace h := h_pos c h
      refine j_iconst B dX10_twoOf_136 (v := 0) (by decide) ?_
      refine j_goto (tgt := 153) B dX10_twoOf_137 (by decide) ?_
      have e1 := Option.some.inj h
      subst e1
      exact j_iret B E rfl dX10_twoOf_153 (Nat.le_refl _) (Nat.le_refl _) ⟨rfl, rfl, rfl, rfl⟩
  replace h := h_neg c10 h
  by_cases c11 : x0 = 48
  · replace h := h_pos c11 h
    refine j_tableIn (off := 217) (tgt := 218) B dX10_twoOf_1 (by rw [c11]; decide) (by rw [c11]; decide) (by rw [c11]; decide) (by decide) ?_
    refine j_iload_n B dX10_twoOf_218 rfl 1 rfl ?_
    refine j_if_ne (tgt := 226) B dX10_twoOf_219 (by decide) (fun c => ?_) (fun c => ?_)
    · replace h := h_neg c h
      refine j_locals [] rfl ?_
      exact tX10_twoOf_226 B E    h
    · replace h := h_pos c h
      refine j_iload_n B dX10_twoOf_222 rfl 2 rfl ?_
      refine j_if_eq (tgt := 230) B dX10_twoOf_223 (by decide) (fun c => ?_) (fun c => ?_)
      · replace h := h_pos c h
        refine j_iconst B dX10_twoOf_230 (v := 0) (by decide) ?_
        have e1 := Option.some.inj h
        subst e1
        exact j_iret B E rfl dX10_twoOf_231 (Nat.le_refl _) (Nat.le_refl _) ⟨rfl, rfl, rfl, rfl⟩
      · replace h := h_neg c h
        refine j_locals [] rfl ?_
        exact tX10_twoOf_226 B E    h
  replace h := h_neg c11 h
  by_cases c12 : x0 = 49
  · replace h := h_pos c12 h
    refine j_tableIn (off := 217) (tgt := 218) B dX10_twoOf_1 (by rw [c12]; decide) (by rw [c12]; decide) (by rw [c12]; decide) (by decide) ?_
    refine j_iload_n B dX10_twoOf_218 rfl 1 rfl ?_
    refine j_if_ne (tgt := 226) B dX10_twoOf_219 (by decide) (fun c => ?_) (fun c => ?_)
    · replace h := h_neg c h
      refine j_locals [] rfl ?_
      exact tX10_twoOf_226 B E    h
    · replace h := h_pos c h
      refine j_iload_n B dX10_twoOf_222 rfl 2 rfl ?_
      refine j_if_eq (tgt := 230) B dX10_twoOf_223 (by decide) (fun c => ?_) (fun c => ?_)
      · replace h := h_pos c h
        refine j_iconst B dX10_twoOf_230 (v := 0) (by decide) ?_
        have e1 := Option.some.inj h
        subst e1
        exact j_iret B E rfl dX10_twoOf_231 (Nat.le_refl _) (Nat.le_refl _) ⟨rfl, rfl, rfl, rfl⟩
      · replace h := h_neg c h
        refine j_locals [] rfl ?_
        exact tX10_twoOf_226 B E    h
  replace h := h_neg c12 h
  by_cases c13 : x0 = 50
  · replace h := h_pos c13 h
    refine j_tableIn (off := 217) (tgt := 218) B dX10_twoOf_1 (by rw [c13]; decide) (by rw [c13]; decide) (by rw [c13]; decide) (by decide) ?_
    refine j_iload_n B dX10_twoOf_218 rfl 1 rfl ?_
    refine j_if_ne (tgt := 226) B dX10_twoOf_219 (by decide) (fun c => ?_) (fun c => ?_)
    · replace h := h_neg c h
      refine j_locals [] rfl ?_
      exact tX10_twoOf_226 B E    h
    · replace h := h_pos c h
      refine j_iload_n B dX10_twoOf_222 rfl 2 rfl ?_
      refine j_if_eq (tgt := 230) B dX10_twoOf_223 (by decide) (fun c => ?_) (fun c => ?_)
      · replace h := h_pos c h
        refine j_iconst B dX10_twoOf_230 (v := 0) (by decide) ?_
        have e1 := Option.some.inj h
        subst e1
        exact j_iret B E rfl dX10_twoOf_231 (Nat.le_refl _) (Nat.le_refl _) ⟨rfl, rfl, rfl, rfl⟩
      · replace h := h_neg c h
        refine j_locals [] rfl ?_
        exact tX10_twoOf_226 B E    h
  replace h := h_neg c13 h
  by_cases c14 : x0 = 51
  · replace h := h_pos c14 h
    refine j_tableIn (off := 217) (tgt := 218) B dX10_twoOf_1 (by rw [c14]; decide) (by rw [c14]; decide) (by rw [c14]; decide) (by decide) ?_
    refine j_iload_n B dX10_twoOf_218 rfl 1 rfl ?_
    refine j_if_ne (tgt := 226) B dX10_twoOf_219 (by decide) (fun c => ?_) (fun c => ?_)
    · replace h := h_neg c h
      refine j_locals [] rfl ?_
      exact tX10_twoOf_226 B E    h
    · replace h := h_pos c h
      refine j_iload_n B dX10_twoOf_222 rfl 2 rfl ?_
      refine j_if_eq (tgt := 230) B dX10_twoOf_223 (by decide) (fun c => ?_) (fun c => ?_)
      · replace h := h_pos c h
        refine j_iconst B dX10_twoOf_230 (v := 0) (by decide) ?_
        have e1 := Option.some.inj h
        subst e1
        exact j_iret B E rfl dX10_twoOf_231 (Nat.le_refl _) (Nat.le_refl _) ⟨rfl, rfl, rfl, rfl⟩
      · replace h := h_neg c h
        refine j_locals [] rfl ?_
        exact tX10_twoOf_226 B E    h
  replace h := h_neg c14 h
  by_cases c15 : x0 = 52
  · replace h := h_pos c15 h
    refine j_tableIn (off := 217) (tgt := 218) B dX10_twoOf_1 (by rw [c15]; decide) (by rw [c15]; decide) (by rw [c15]; decide) (by decide) ?_
    refine j_iload_n B dX10_twoOf_218 rfl 1 rfl ?_
    refine j_if_ne (tgt := 226) B dX10_twoOf_219 (by decide) (fun c => ?_) (fun c => ?_)
    · replace h := h_neg c h
      refine j_locals [] rfl ?_
      exact tX10_twoOf_226 B E    h
    · replace h := h_pos c h
      refine j_iload_n B dX10_twoOf_222 rfl 2 rfl ?_
      refine j_if_eq (tgt := 230) B dX10_twoOf_223 (by decide) (fun c => ?_) (fun c => ?_)
      · replace h := h_pos c h
        refine j_iconst B dX10_twoOf_230 (v := 0) (by decide) ?_
        have e1 := Option.some.inj h
        subst e1
        exact j_iret B E rfl dX10_twoOf_231 (Nat.le_refl _) (Nat.le_refl _) ⟨rfl, rfl, rfl, rfl⟩
      · replace h := h_neg c h
        refine j_locals [] rfl ?_
        exact tX10_twoOf_226 B E    h
  replace h := h_neg c15 h
  by_cases c16 : x0 = 53
  · replace h := h_pos c16 h
    refine j_tableIn (off := 217) (tgt := 218) B dX10_twoOf_1 (by rw [c16]; decide) (by rw [c16]; decide) (by rw [c16]; decide) (by decide) ?_
    refine j_iload_n B dX10_twoOf_218 rfl 1 rfl ?_
    refine j_if_ne (tgt := 226) B dX10_twoOf_219 (by decide) (fun c => ?_) (fun c => ?_)
    · replace h := h_neg c h
      refine j_locals [] rfl ?_
      exact tX10_twoOf_226 B E    h
    · replace h := h_pos c h
      refine j_iload_n B dX10_twoOf_222 rfl 2 rfl ?_
      refine j_if_eq (tgt := 230) B dX10_twoOf_223 (by decide) (fun c => ?_) (fun c => ?_)
      · replace h := h_pos c h
        refine j_iconst B dX10_twoOf_230 (v := 0) (by decide) ?_
        have e1 := Option.some.inj h
        subst e1
        exact j_iret B E rfl dX10_twoOf_231 (Nat.le_refl _) (Nat.le_refl _) ⟨rfl, rfl, rfl, rfl⟩
      · replace h := h_neg c h
        refine j_locals [] rfl ?_
        exact tX10_twoOf_226 B E    h
  replace h := h_neg c16 h
  by_cases c17 : x0 = 54
  · replace h := h_pos c17 h
    refine j_tableIn (off := 217) (tgt := 218) B dX10_twoOf_1 (by rw [c17]; decide) (by rw [c17]; decide) (by rw [c17]; decide) (by decide) ?_
    refine j_iload_n B dX10_twoOf_218 rfl 1 rfl ?_
    refine j_if_ne (tgt := 226) B dX10_twoOf_219 (by decide) (fun c => ?_) (fun c => ?_)
    · replace h := h_neg c h
      refine j_locals [] rfl ?_
      exact tX10_twoOf_226 B E    h
    · replace h := h_pos c h
      refine j_iload_n B dX10_twoOf_222 rfl 2 rfl ?_
      refine j_if_eq (tgt := 230) B dX10_twoOf_223 (by decide) (fun c => ?_) (fun c => ?_)
      · replace h := h_pos c h
        refine j_iconst B dX10_twoOf_230 (v := 0) (by decide) ?_
        have e1 := Option.some.inj h
        subst e1
        exact j_iret B E rfl dX10_twoOf_231 (Nat.le_refl _) (Nat.le_refl _) ⟨rfl, rfl, rfl, rfl⟩
      · replace h := h_neg c h
        refine j_locals [] rfl ?_
        exact tX10_twoOf_226 B E    h
  replace h := h_neg c17 h
  by_cases c18 : x0 = 55
  · replace h := h_pos c18 h
    refine j_tableIn (off := 217) (tgt := 218) B dX10_twoOf_1 (by rw [c18]; decide) (by rw [c18]; decide) (by rw [c18]; decide) (by decide) ?_
    refine j_iload_n B dX10_twoOf_218 rfl 1 rfl ?_
    refine j_if_ne (tgt := 226) B dX10_twoOf_219 (by decide) (fun c => ?_) (fun c => ?_)
    · replace h := h_neg c h
      refine j_locals [] rfl ?_
      exact tX10_twoOf_226 B E    h
    · replace h := h_pos c h
      refine j_iload_n B dX10_twoOf_222 rfl 2 rfl ?_
      refine j_if_eq (tgt := 230) B dX10_twoOf_223 (by decide) (fun c => ?_) (fun c => ?_)
      · replace h := h_pos c h
        refine j_iconst B dX10_twoOf_230 (v := 0) (by decide) ?_
        have e1 := Option.some.inj h
        subst e1
        exact j_iret B E rfl dX10_twoOf_231 (Nat.le_refl _) (Nat.le_refl _) ⟨rfl, rfl, rfl, rfl⟩
      · replace h := h_neg c h
        refine j_locals [] rfl ?_
        exact tX10_twoOf_226 B E    h
  replace h := h_neg c18 h
  by_cases c19 : x0 = 56
  · replace h := h_pos c19 h
    refine j_tableIn (off := 217) (tgt := 218) B dX10_twoOf_1 (by rw [c19]; decide) (by rw [c19]; decide) (by rw [c19]; decide) (by decide) ?_
    refine j_iload_n B dX10_twoOf_218 rfl 1 rfl ?_
    refine j_if_ne (tgt := 226) B dX10_twoOf_219 (by decide) (fun c => ?_) (fun c => ?_)
    · replace h := h_neg c h
      refine j_locals [] rfl ?_
      exact tX10_twoOf_226 B E    h
    · replace h := h_pos c h
      refine j_iload_n B dX10_twoOf_222 rfl 2 rfl ?_
      refine j_if_eq (tgt := 230) B dX10_twoOf_223 (by decide) (fun c => ?_) (fun c => ?_)
      · replace h := h_pos c h
        refine j_iconst B dX10_twoOf_230 (v := 0) (by decide) ?_
        have e1 := Option.some.inj h
        subst e1
        exact j_iret B E rfl dX10_twoOf_231 (Nat.le_refl _) (Nat.le_refl _) ⟨rfl, rfl, rfl, rfl⟩
      · replace h := h_neg c h
        refine j_locals [] rfl ?_
        exact tX10_twoOf_226 B E    h
  replace h := h_neg c19 h
  by_cases c20 : x0 = 57
  · replace h := h_pos c20 h
    refine j_tableIn (off := 217) (tgt := 218) B dX10_twoOf_1 (by rw [c20]; decide) (by rw [c20]; decide) (by rw [c20]; decide) (by decide) ?_
    refine j_iload_n B dX10_twoOf_218 rfl 1 rfl ?_
    refine j_if_ne (tgt := 226) B dX10_twoOf_219 (by decide) (fun c => ?_) (fun c => ?_)
    · replace h := h_neg c h
      refine j_locals [] rfl ?_
      exact tX10_twoOf_226 B E    h
    · replace h := h_pos c h
      refine j_iload_n B dX10_twoOf_222 rfl 2 rfl ?_
      refine j_if_eq (tgt := 230) B dX10_twoOf_223 (by decide) (fun c => ?_) (fun c => ?_)
      · replace h := h_pos c h
        refine j_iconst B dX10_twoOf_230 (v := 0) (by decide) ?_
        have e1 := Option.some.inj h
        subst e1
        exact j_iret B E rfl dX10_twoOf_231 (Nat.le_refl _) (Nat.le_refl _) ⟨rfl, rfl, rfl, rfl⟩
      · replace h := h_neg c h
        refine j_locals [] rfl ?_
        exact tX10_twoOf_226 B E    h
  replace h := h_neg c20 h
  by_cases c21 : x0 = 58
  · replace h := h_pos c21 h
    refine j_tableIn (off := 217) (tgt := 218) B dX10_twoOf_1 (by rw [c21]; decide) (by rw [c21]; decide) (by rw [c21]; decide) (by decide) ?_
    refine j_iload_n B dX10_twoOf_218 rfl 1 rfl ?_
    refine j_if_ne (tgt := 226) B dX10_twoOf_219 (by decide) (fun c => ?_) (fun c => ?_)
    · replace h := h_neg c h
      refine j_locals [] rfl ?_
      exact tX10_twoOf_226 B E    h
    · replace h := h_pos c h
      refine j_iload_n B dX10_twoOf_222 rfl 2 rfl ?_
      refine j_if_eq (tgt := 230) B dX10_twoOf_223 (by decide) (fun c => ?_) (fun c => ?_)
      · replace h := h_pos c h
        refine j_iconst B dX10_twoOf_230 (v := 0) (by decide) ?_
        have e1 := Option.some.inj h
        subst e1
        exact j_iret B E rfl dX10_twoOf_231 (Nat.le_refl _) (Nat.le_refl _) ⟨rfl, rfl, rfl, rfl⟩
      · replace h := h_neg c h
        refine j_locals [] rfl ?_
        exact tX10_twoOf_226 B E    h
  replace h := h_neg c21 h
  by_cases c22 : x0 = 59
  · replace h := h_pos c22 h
    refine j_tableIn (off := 217) (tgt := 218) B dX10_twoOf_1 (by rw [c22]; decide) (by rw [c22]; decide) (by rw [c22]; decide) (by decide) ?_
    refine j_iload_n B dX10_twoOf_218 rfl 1 rfl ?_
    refine j_if_ne (tgt := 226) B dX10_twoOf_219 (by decide) (fun c => ?_) (fun c => ?_)
    · replace h := h_neg c h
      refine j_locals [] rfl ?_
      exact tX10_twoOf_226 B E    h
    · replace h := h_pos c h
      refine j_iload_n B dX10_twoOf_222 rfl 2 rfl ?_
      refine j_if_eq (tgt := 230) B dX10_twoOf_223 (by decide) (fun c => ?_) (fun c => ?_)
      · replace h := h_pos c h
        refine j_iconst B dX10_twoOf_230 (v := 0) (by decide) ?_
        have e1 := Option.some.inj h
        subst e1
        exact j_iret B E rfl dX10_twoOf_231 (Nat.le_refl _) (Nat.le_refl _) ⟨rfl, rfl, rfl, rfl⟩
      · replace h := h_neg c h
        refine j_locals [] rfl ?_
        exact tX10_twoOf_226 B E    h
  replace h := h_neg c22 h
  by_cases c23 : x0 = 60
  · replace h := h_pos c23 h
    refine j_tableIn (off := 170) (tgt := 171) B dX10_twoOf_1 (by rw [c23]; decide) (by rw [c23]; decide) (by rw [c23]; decide) (by decide) ?_
    refine j_iload_n B dX10_twoOf_171 rfl 1 rfl ?_
    refine j_iload_n B dX10_twoOf_172 rfl 2 rfl ?_
    refine j_icmp_ge (tgt := 180) B dX10_twoOf_173 (by decide) (fun c => ?_) (fun c => ?_)
    · replace h := h_pos c h
      refine j_iconst B dX10_twoOf_180 (v := 0) (by decide) ?_
      have e1 := Option.some.inj h
      subst e1
      exact j_iret B E rfl dX10_twoOf_181 (Nat.le_refl _) (Nat.le_refl _) ⟨rfl, rfl, rfl, rfl⟩
    · replace h := h_neg c h
      refine j_iconst B dX10_twoOf_176 (v := 1) (by decide) ?_
      refine j_goto (tgt := 181) B dX10_twoOf_177 (by decide) ?_
      have e1 := Option.some.inj h
      subst e1
      exact j_iret B E rfl dX10_twoOf_181 (Nat.le_refl _) (Nat.le_refl _) ⟨rfl, rfl, rfl, rfl⟩
  replace h := h_neg c23 h
  by_cases c24 : x0 = 61
  · replace h := h_pos c24 h
    refine j_tableIn (off := 181) (tgt := 182) B dX10_twoOf_1 (by rw [c24]; decide) (by rw [c24]; decide) (by rw [c24]; decide) (by decide) ?_
    refine j_iload_n B dX10_twoOf_182 rfl 1 rfl ?_
    refine j_iload_n B dX10_twoOf_183 rfl 2 rfl ?_
    refine j_icmp_ne (tgt := 191) B dX10_twoOf_184 (by decide) (fun c => ?_) (fun c => ?_)
    · replace h := h_neg c h
      refine j_iconst B dX10_twoOf_191 (v := 0) (by decide) ?_
      have e1 := Option.some.inj h
      subst e1
      exact j_iret B E rfl dX10_twoOf_192 (Nat.le_refl _) (Nat.le_refl _) ⟨rfl, rfl, rfl, rfl⟩
    · replace h := h_pos c h
      refine j_iconst B dX10_twoOf_187 (v := 1) (by decide) ?_
      refine j_goto (tgt := 192) B dX10_twoOf_188 (by decide) ?_
      have e1 := Option.some.inj h
      subst e1
      exact j_iret B E rfl dX10_twoOf_192 (Nat.le_refl _) (Nat.le_refl _) ⟨rfl, rfl, rfl, rfl⟩
  replace h := h_neg c24 h
  by_cases c25 : x0 = 62
  · replace h := h_pos c25 h
    refine j_tableIn (off := 192) (tgt := 193) B dX10_twoOf_1 (by rw [c25]; decide) (by rw [c25]; decide) (by rw [c25]; decide) (by decide) ?_
    refine j_iload_n B dX10_twoOf_193 rfl 1 rfl ?_
    refine j_iload_n B dX10_twoOf_194 rfl 2 rfl ?_
    refine j_icmp_le (tgt := 202) B dX10_twoOf_195 (by decide) (fun c => ?_) (fun c => ?_)
    · replace h := h_pos c h
      refine j_iconst B dX10_twoOf_202 (v := 0) (by decide) ?_
      have e1 := Option.some.inj h
      subst e1
      exact j_iret B E rfl dX10_twoOf_203 (Nat.le_refl _) (Nat.le_refl _) ⟨rfl, rfl, rfl, rfl⟩
    · replace h := h_neg c h
      refine j_iconst B dX10_twoOf_198 (v := 1) (by decide) ?_
      refine j_goto (tgt := 203) B dX10_twoOf_199 (by decide) ?_
      have e1 := Option.some.inj h
      subst e1
      exact j_iret B E rfl dX10_twoOf_203 (Nat.le_refl _) (Nat.le_refl _) ⟨rfl, rfl, rfl, rfl⟩
  replace h := h_neg c25 h
  refine j_tableOut (tgt := 218) B dX10_twoOf_1 (by have n0 := lv_neT c0 (a := 37) (by decide); have n1 := lv_neT c1 (a := 38) (by decide); have n2 := lv_neT c2 (a := 39) (by decide); have n3 := lv_neT c3 (a := 40) (by decide); have n4 := lv_neT c4 (a := 41) (by decide); have n5 := lv_neT c5 (a := 42) (by decide); have n6 := lv_neT c6 (a := 43) (by decide); have n7 := lv_neT c7 (a := 44) (by decide); have n8 := lv_neT c8 (a := 45) (by decide); have n9 := lv_neT c9 (a := 46) (by decide); have n10 := lv_neT c10 (a := 47) (by decide); have n11 := lv_neT c11 (a := 48) (by decide); have n12 := lv_neT c12 (a := 49) (by decide); have n13 := lv_neT c13 (a := 50) (by decide); have n14 := lv_neT c14 (a := 51) (by decide); have n15 := lv_neT c15 (a := 52) (by decide); have n16 := lv_neT c16 (a := 53) (by decide); have n17 := lv_neT c17 (a := 54) (by decide); have n18 := lv_neT c18 (a := 55) (by decide); have n19 := lv_neT c19 (a := 56) (by decide); have n20 := lv_neT c20 (a := 57) (by decide); have n21 := lv_neT c21 (a := 58) (by decide); have n22 := lv_neT c22 (a := 59) (by decide); have n23 := lv_neT c23 (a := 60) (by decide); have n24 := lv_neT c24 (a := 61) (by decide); have n25 := lv_neT c25 (a := 62) (by decide); omega) (by decide) ?_
  refine j_iload_n B dX10_twoOf_218 rfl 1 rfl ?_
  refine j_if_ne (tgt := 226) B dX10_twoOf_219 (by decide) (fun c => ?_) (fun c => ?_)
  · replace h := h_neg c h
    refine j_locals [] rfl ?_
    exact tX10_twoOf_226 B E    h
  · replace h := h_pos c h
    refine j_iload_n B dX10_twoOf_222 rfl 2 rfl ?_
    refine j_if_eq (tgt := 230) B dX10_twoOf_223 (by decide) (fun c => ?_) (fun c => ?_)
    · replace h := h_pos c h
      refine j_iconst B dX10_twoOf_230 (v := 0) (by decide) ?_
      have e1 := Option.some.inj h
      subst e1
      exact j_iret B E rfl dX10_twoOf_231 (Nat.le_refl _) (Nat.le_refl _) ⟨rfl, rfl, rfl, rfl⟩
    · replace h := h_neg c h
      refine j_locals [] rfl ?_
      exact tX10_twoOf_226 B E    h
def fX10_worked_182  (k12 : Int32 → Int32 → Int32 → Int32 → VI → Option (Int32 × VI)) (x1 : Int32) (x3 : Int32) (x4 : Int32) (x5 : Int32) (vi : VI) : Option (Int32 × VI) := k12 x1 x3 x4 (x5 + 1) vi
theorem tX10_worked_182 {G : GT} {sv : SV} {vl0 : VL} {ns : Nat} {Γ : CT} {r : Int32} {vi' : VI} {k12 : Int32 → Int32 → Int32 → Int32 → VI → Option (Int32 × VI)} (B : Base G Γ mX10_worked 1 0 0) (E : Ends G Γ 0 0 (QI r sv vi' vl0)) (hW : WF sv ns) (hk12 : ∀ (x1 : Int32) (x3 : Int32) (x4 : Int32) (x5 : Int32) (vi : VI), k12 x1 x3 x4 x5 vi = some (r, vi') → J G Γ 0 0 12 [(0, .ref (G.1 + 63)), (1, .int x1), (3, .int x3), (4, .int x4), (5, .int x5)] [] sv vi vl0) : ∀ (x1 : Int32) (x3 : Int32) (x4 : Int32) (x5 : Int32) (vi : VI), fX10_worked_182 k12 x1 x3 x4 x5 vi = some (r, vi') → J G Γ 0 0 182 [(0, .ref (G.1 + 63)), (1, .int x1), (3, .int x3), (4, .int x4), (5, .int x5)] [] sv vi vl0 := by
  intro x1 x3 x4 x5 vi  h
  unfold fX10_worked_182 at h
  refine j_iinc (v := (x5 + 1)) (L' := [(5, .int (x5 + 1)), (0, .ref (G.1 + 63)), (1, .int x1), (3, .int x3), (4, .int x4)]) B dX10_worked_182 4 rfl rfl (by decide) rfl ?_
  refine j_goto (tgt := 12) B dX10_worked_185 (by decide) ?_
  refine j_locals [1, 2, 3, 4, 0] rfl ?_
  exact hk12 (x1) (x3) (x4) ((x5 + 1)) (vi)  h
def fX10_worked_79  (k12 : Int32 → Int32 → Int32 → Int32 → VI → Option (Int32 × VI)) (x1 : Int32) (x3 : Int32) (x4 : Int32) (x5 : Int32) (s1 : Int32) (s2 : Int32) (vi : VI) : Option (Int32 × VI) := if inb s1 130 = true then fX10_worked_182 k12 x1 x3 (x4 + 1) x5 (j_up vi 81 s1.toNatClampNeg s2) else none
theorem tX10_worked_79 {G : GT} {sv : SV} {vl0 : VL} {ns : Nat} {Γ : CT} {r : Int32} {vi' : VI} {k12 : Int32 → Int32 → Int32 → Int32 → VI → Option (Int32 × VI)} (B : Base G Γ mX10_worked 1 0 0) (E : Ends G Γ 0 0 (QI r sv vi' vl0)) (hW : WF sv ns) (hk12 : ∀ (x1 : Int32) (x3 : Int32) (x4 : Int32) (x5 : Int32) (vi : VI), k12 x1 x3 x4 x5 vi = some (r, vi') → J G Γ 0 0 12 [(0, .ref (G.1 + 63)), (1, .int x1), (3, .int x3), (4, .int x4), (5, .int x5)] [] sv vi vl0) : ∀ (x1 : Int32) (x3 : Int32) (x4 : Int32) (x5 : Int32) (s1 : Int32) (s2 : Int32) (vi : VI), fX10_worked_79 k12 x1 x3 x4 x5 s1 s2 vi = some (r, vi') → J G Γ 0 0 79 [(0, .ref (G.1 + 63)), (1, .int x1), (3, .int x3), (4, .int x4), (5, .int x5)] [.int s2, .int s1, .ref (G.1 + 81)] sv vi vl0 := by
  intro x1 x3 x4 x5 s1 s2 vi  h
  unfold fX10_worked_79 at h
  obtain ⟨b4, h⟩ := h_inb h
  refine j_iast B ((wf_83 hW)) b4 dX10_worked_79 ?_
  refine j_iinc (v := (x4 + 1)) (L' := [(4, .int (x4 + 1)), (0, .ref (G.1 + 63)), (1, .int x1), (3, .int x3), (5, .int x5)]) B dX10_worked_80 3 rfl rfl (by decide) rfl ?_
  refine j_goto (tgt := 182) B dX10_worked_83 (by decide) ?_
  refine j_locals [1, 2, 3, 0, 4] rfl ?_
  exact tX10_worked_182 B E hW hk12 (x1) (x3) ((x4 + 1)) (x5) ((j_up vi 81 s1.toNatClampNeg s2))  h
def fX10_worked_45  (k12 : Int32 → Int32 → Int32 → Int32 → VI → Option (Int32 × VI)) (x1 : Int32) (x3 : Int32) (x4 : Int32) (x5 : Int32) (x6 : Int32) (vi : VI) : Option (Int32 × VI) := if x6 = 1 then if inb x5 260 = true then fX10_worked_79 k12 x1 x3 x4 x5 x4 (vi 76 x5.toNatClampNeg) vi else none else if inb x5 260 = true then if inb (vi 76 x5.toNatClampNeg) 6 = true then fX10_worked_79 k12 x1 x3 x4 x5 x4 (vi 80 (vi 76 x5.toNatClampNeg).toNatClampNeg) vi else none else none
theorem tX10_worked_45 {G : GT} {sv : SV} {vl0 : VL} {ns : Nat} {Γ : CT} {r : Int32} {vi' : VI} {k12 : Int32 → Int32 → Int32 → Int32 → VI → Option (Int32 × VI)} (B : Base G Γ mX10_worked 1 0 0) (E : Ends G Γ 0 0 (QI r sv vi' vl0)) (hW : WF sv ns) (hk12 : ∀ (x1 : Int32) (x3 : Int32) (x4 : Int32) (x5 : Int32) (vi : VI), k12 x1 x3 x4 x5 vi = some (r, vi') → J G Γ 0 0 12 [(0, .ref (G.1 + 63)), (1, .int x1), (3, .int x3), (4, .int x4), (5, .int x5)] [] sv vi vl0) : ∀ (x1 : Int32) (x3 : Int32) (x4 : Int32) (x5 : Int32) (x6 : Int32) (vi : VI), fX10_worked_45 k12 x1 x3 x4 x5 x6 vi = some (r, vi') → J G Γ 0 0 45 [(0, .ref (G.1 + 63)), (1, .int x1), (3, .int x3), (4, .int x4), (5, .int x5), (6, .int x6)] [] sv vi vl0 := by
  intro x1 x3 x4 x5 x6 vi  h
  unfold fX10_worked_45 at h
  refine j_aload_n B dX10_worked_45 rfl 0 rfl ?_
  refine gf_RX10_65 B rfl (wf_65 hW) (wf_179 hW) dX10_worked_46 ?_
  refine j_iload B dX10_worked_49 3 rfl ?_
  refine j_iload B dX10_worked_51 5 rfl ?_
  refine j_iconst B dX10_worked_53 (v := 1) (by decide) ?_
  refine j_icmp_ne (tgt := 67) B dX10_worked_54 (by decide) (fun c => ?_) (fun c => ?_)
  · replace h := h_neg c h
    refine j_aload_n B dX10_worked_67 rfl 0 rfl ?_
    refine gf_RX10_62 B rfl (wf_65 hW) (wf_178 hW) dX10_worked_68 ?_
    refine j_aload_n B dX10_worked_71 rfl 0 rfl ?_
    refine gf_RX10_49 B rfl (wf_65 hW) (wf_174 hW) dX10_worked_72 ?_
    refine j_iload B dX10_worked_75 4 rfl ?_
    obtain ⟨b2, h⟩ := h_inb h
    refine j_iald B ((wf_78 hW)) b2 dX10_worked_77 ?_
    obtain ⟨b3, h⟩ := h_inb h
    refine j_iald B ((wf_82 hW)) b3 dX10_worked_78 ?_
    refine j_locals [0, 1, 2, 3, 4] rfl ?_
    exact tX10_worked_79 B E hW hk12 (x1) (x3) (x4) (x5) (x4) ((vi 80 (vi 76 x5.toNatClampNeg).toNatClampNeg)) (vi)  h
  · replace h := h_pos c h
    refine j_aload_n B dX10_worked_57 rfl 0 rfl ?_
    refine gf_RX10_49 B rfl (wf_65 hW) (wf_174 hW) dX10_worked_58 ?_
    refine j_iload B dX10_worked_61 4 rfl ?_
    obtain ⟨b5, h⟩ := h_inb h
    refine j_iald B ((wf_78 hW)) b5 dX10_worked_63 ?_
    refine j_goto (tgt := 79) B dX10_worked_64 (by decide) ?_
    refine j_locals [0, 1, 2, 3, 4] rfl ?_
    exact tX10_worked_79 B E hW hk12 (x1) (x3) (x4) (x5) (x4) ((vi 76 x5.toNatClampNeg)) (vi)  h
def fX10_worked_117  (k12 : Int32 → Int32 → Int32 → Int32 → VI → Option (Int32 × VI)) (x1 : Int32) (x3 : Int32) (x4 : Int32) (x5 : Int32) (s1 : Int32) (s2 : Int32) (vi : VI) : Option (Int32 × VI) := if inb s1 130 = true then fX10_worked_182 k12 x1 x3 x4 x5 (j_up vi 81 s1.toNatClampNeg s2) else none
theorem tX10_worked_117 {G : GT} {sv : SV} {vl0 : VL} {ns : Nat} {Γ : CT} {r : Int32} {vi' : VI} {k12 : Int32 → Int32 → Int32 → Int32 → VI → Option (Int32 × VI)} (B : Base G Γ mX10_worked 1 0 0) (E : Ends G Γ 0 0 (QI r sv vi' vl0)) (hW : WF sv ns) (hk12 : ∀ (x1 : Int32) (x3 : Int32) (x4 : Int32) (x5 : Int32) (vi : VI), k12 x1 x3 x4 x5 vi = some (r, vi') → J G Γ 0 0 12 [(0, .ref (G.1 + 63)), (1, .int x1), (3, .int x3), (4, .int x4), (5, .int x5)] [] sv vi vl0) : ∀ (x1 : Int32) (x3 : Int32) (x4 : Int32) (x5 : Int32) (s1 : Int32) (s2 : Int32) (vi : VI), fX10_worked_117 k12 x1 x3 x4 x5 s1 s2 vi = some (r, vi') → J G Γ 0 0 117 [(0, .ref (G.1 + 63)), (1, .int x1), (3, .int x3), (4, .int x4), (5, .int x5)] [.int s2, .int s1, .ref (G.1 + 81)] sv vi vl0 := by
  intro x1 x3 x4 x5 s1 s2 vi  h
  unfold fX10_worked_117 at h
  obtain ⟨b13, h⟩ := h_inb h
  refine j_iast B ((wf_83 hW)) b13 dX10_worked_117 ?_
  refine j_goto (tgt := 182) B dX10_worked_118 (by decide) ?_
  refine j_locals [0, 1, 2, 3, 4] rfl ?_
  exact tX10_worked_182 B E hW hk12 (x1) (x3) (x4) (x5) ((j_up vi 81 s1.toNatClampNeg s2))  h
def fX10_worked_12  : Nat → Int32 → Int32 → Int32 → Int32 → VI → Option (Int32 × VI)
  | 0, _, _, _, _, _ => none
  | F + 1, x1, x3, x4, x5, vi => if ((130 * x1) + x3) ≤ x5 then some ((vi 81 (0 : Int32).toNatClampNeg), vi) else if inb x5 260 = true then if (vi 75 x5.toNatClampNeg) = 1 then fX10_worked_45 (fX10_worked_12  F) x1 x3 x4 x5 (vi 75 x5.toNatClampNeg) vi else if (vi 75 x5.toNatClampNeg) = 2 then fX10_worked_45 (fX10_worked_12  F) x1 x3 x4 x5 (vi 75 x5.toNatClampNeg) vi else if (vi 75 x5.toNatClampNeg) = 3 then if inb (x4 - 1) 130 = true then if (vi 81 (x4 - 1).toNatClampNeg) = 0 then fX10_worked_117 (fX10_worked_12  F) x1 x3 x4 x5 (x4 - 1) 1 vi else fX10_worked_117 (fX10_worked_12  F) x1 x3 x4 x5 (x4 - 1) 0 vi else none else if (vi 75 x5.toNatClampNeg) = 4 then if inb (x4 - 1) 130 = true then if inb (x4 - 1) 130 = true then fX10_worked_182 (fX10_worked_12  F) x1 x3 x4 x5 (j_up vi 81 (x4 - 1).toNatClampNeg (-(vi 81 (x4 - 1).toNatClampNeg))) else none else none else if inb ((x4 + (-1)) - 1) 130 = true then if inb (x4 + (-1)) 130 = true then (fX10_twoOf (vi 75 x5.toNatClampNeg) (vi 81 ((x4 + (-1)) - 1).toNatClampNeg) (vi 81 (x4 + (-1)).toNatClampNeg)).bind fun r8 => if inb ((x4 + (-1)) - 1) 130 = true then fX10_worked_182 (fX10_worked_12  F) x1 x3 (x4 + (-1)) x5 (j_up vi 81 ((x4 + (-1)) - 1).toNatClampNeg r8) else none else none else none else none
theorem tX10_worked_12 {G : GT} {sv : SV} {vl0 : VL} {ns : Nat} {Γ : CT} {r : Int32} {vi' : VI} (B : Base G Γ mX10_worked 1 0 0) (E : Ends G Γ 0 0 (QI r sv vi' vl0)) (hW : WF sv ns) : ∀ (F : Nat) (x1 : Int32) (x3 : Int32) (x4 : Int32) (x5 : Int32) (vi : VI), fX10_worked_12  F x1 x3 x4 x5 vi = some (r, vi') → J G Γ 0 0 12 [(0, .ref (G.1 + 63)), (1, .int x1), (3, .int x3), (4, .int x4), (5, .int x5)] [] sv vi vl0 := by
  intro F
  induction F with
  | zero =>
    intro x1 x3 x4 x5 vi  h
    cases (show (none : Option (Int32 × VI)) = some (r, vi') from h)
  | succ F ih =>
    intro x1 x3 x4 x5 vi  h
    rw [fX10_worked_12] at h
    refine j_iload B dX10_worked_12 4 rfl ?_
    refine j_sipush B dX10_worked_14 (v := 130) (by decide) ?_
    refine j_iload_n B dX10_worked_17 rfl 1 rfl ?_
    refine j_imul B dX10_worked_18 ?_
    refine j_iload_n B dX10_worked_19 rfl 2 rfl ?_
    refine j_iadd B dX10_worked_20 ?_
    refine j_icmp_ge (tgt := 188) B dX10_worked_21 (by decide) (fun c => ?_) (fun c => ?_)
    · replace h := h_pos c h
      refine j_aload_n B dX10_worked_188 rfl 0 rfl ?_
      refine gf_RX10_65 B rfl (wf_65 hW) (wf_179 hW) dX10_worked_189 ?_
      refine j_iconst B dX10_worked_192 (v := 0) (by decide) ?_
      refine j_iald B ((wf_83 hW)) (vp_in_iff.mpr ⟨by decide, by decide⟩) dX10_worked_193 ?_
      obtain ⟨e1, e2⟩ := Prod.mk.inj (Option.some.inj h)
      subst e1
      subst e2
      exact j_iret B E rfl dX10_worked_194 (Nat.le_refl _) (Nat.le_refl _) ⟨rfl, rfl, rfl, rfl⟩
    · replace h := h_neg c h
      refine j_aload_n B dX10_worked_24 rfl 0 rfl ?_
      refine gf_RX10_46 B rfl (wf_65 hW) (wf_173 hW) dX10_worked_25 ?_
      refine j_iload B dX10_worked_28 4 rfl ?_
      obtain ⟨b1, h⟩ := h_inb h
      refine j_bald B ((wf_77 hW)) b1 dX10_worked_30 ?_
      refine j_istore (L' := [(6, .int (vi 75 x5.toNatClampNeg)), (0, .ref (G.1 + 63)), (1, .int x1), (3, .int x3), (4, .int x4), (5, .int x5)]) B dX10_worked_31 (by decide) rfl ?_
      refine j_iload B dX10_worked_33 0 rfl ?_
      refine j_iconst B dX10_worked_35 (v := 1) (by decide) ?_
      refine j_icmp_eq (tgt := 45) B dX10_worked_36 (by decide) (fun c => ?_) (fun c => ?_)
      · replace h := h_pos c h
        refine j_locals [1, 2, 3, 4, 5, 0] rfl ?_
        exact tX10_worked_45 B E hW ih (x1) (x3) (x4) (x5) ((vi 75 x5.toNatClampNeg)) (vi)  h
      · replace h := h_neg c h
        refine j_iload B dX10_worked_39 0 rfl ?_
        refine j_iconst B dX10_worked_41 (v := 2) (by decide) ?_
        refine j_icmp_ne (tgt := 86) B dX10_worked_42 (by decide) (fun c => ?_) (fun c => ?_)
        · replace h := h_neg c h
          refine j_iload B dX10_worked_86 0 rfl ?_
          refine j_iconst B dX10_worked_88 (v := 3) (by decide) ?_
          refine j_icmp_ne (tgt := 121) B dX10_worked_89 (by decide) (fun c => ?_) (fun c => ?_)
          · replace h := h_neg c h
            refine j_iload B dX10_worked_121 0 rfl ?_
            refine j_iconst B dX10_worked_123 (v := 4) (by decide) ?_
            refine j_icmp_ne (tgt := 149) B dX10_worked_124 (by decide) (fun c => ?_) (fun c => ?_)
            · replace h := h_neg c h
              refine j_iinc (v := (x4 + (-1))) (L' := [(4, .int (x4 + (-1))), (6, .int (vi 75 x5.toNatClampNeg)), (0, .ref (G.1 + 63)), (1, .int x1), (3, .int x3), (5, .int x5)]) B dX10_worked_149 4 rfl rfl (by decide) rfl ?_
              refine j_aload_n B dX10_worked_152 rfl 2 rfl ?_
              refine gf_RX10_65 B rfl (wf_65 hW) (wf_179 hW) dX10_worked_153 ?_
              refine j_iload B dX10_worked_156 0 rfl ?_
              refine j_iconst B dX10_worked_158 (v := 1) (by decide) ?_
              refine j_isub B dX10_worked_159 ?_
              refine j_iload B dX10_worked_160 1 rfl ?_
              refine j_aload_n B dX10_worked_162 rfl 2 rfl ?_
              refine gf_RX10_65 B rfl (wf_65 hW) (wf_179 hW) dX10_worked_163 ?_
              refine j_iload B dX10_worked_166 0 rfl ?_
              refine j_iconst B dX10_worked_168 (v := 1) (by decide) ?_
              refine j_isub B dX10_worked_169 ?_
              obtain ⟨b6, h⟩ := h_inb h
              refine j_iald B ((wf_83 hW)) b6 dX10_worked_170 ?_
              refine j_aload_n B dX10_worked_171 rfl 2 rfl ?_
              refine gf_RX10_65 B rfl (wf_65 hW) (wf_179 hW) dX10_worked_172 ?_
              refine j_iload B dX10_worked_175 0 rfl ?_
              obtain ⟨b7, h⟩ := h_inb h
              refine j_iald B ((wf_83 hW)) b7 dX10_worked_177 ?_
              obtain ⟨r8, hr8, h⟩ := h_bind h
              refine j_cSI (rest := [.int ((x4 + (-1)) - 1), .ref (G.1 + 81)]) B (tX10_twoOf hr8) jt_RX10_237 wst_X10_twoOf rfl (by decide) (Nat.le_refl _) (Nat.le_refl _) rfl (Nat.le_of_ble_eq_true rfl) dX10_worked_178 ?_
              obtain ⟨b9, h⟩ := h_inb h
              refine j_iast B ((wf_83 hW)) b9 dX10_worked_181 ?_
              refine j_locals [2, 3, 4, 0, 5] rfl ?_
              exact tX10_worked_182 B E hW ih (x1) (x3) ((x4 + (-1))) (x5) ((j_up vi 81 ((x4 + (-1)) - 1).toNatClampNeg r8))  h
            · replace h := h_pos c h
              refine j_aload_n B dX10_worked_127 rfl 1 rfl ?_
              refine gf_RX10_65 B rfl (wf_65 hW) (wf_179 hW) dX10_worked_128 ?_
              refine j_iload B dX10_worked_131 4 rfl ?_
              refine j_iconst B dX10_worked_133 (v := 1) (by decide) ?_
              refine j_isub B dX10_worked_134 ?_
              refine j_aload_n B dX10_worked_135 rfl 1 rfl ?_
              refine gf_RX10_65 B rfl (wf_65 hW) (wf_179 hW) dX10_worked_136 ?_
              refine j_iload B dX10_worked_139 4 rfl ?_
              refine j_iconst B dX10_worked_141 (v := 1) (by decide) ?_
              refine j_isub B dX10_worked_142 ?_
              obtain ⟨b10, h⟩ := h_inb h
              refine j_iald B ((wf_83 hW)) b10 dX10_worked_143 ?_
              refine j_ineg B dX10_worked_144 ?_
              obtain ⟨b11, h⟩ := h_inb h
              refine j_iast B ((wf_83 hW)) b11 dX10_worked_145 ?_
              refine j_goto (tgt := 182) B dX10_worked_146 (by decide) ?_
              refine j_locals [1, 2, 3, 4, 5] rfl ?_
              exact tX10_worked_182 B E hW ih (x1) (x3) (x4) (x5) ((j_up vi 81 (x4 - 1).toNatClampNeg (-(vi 81 (x4 - 1).toNatClampNeg))))  h
          · replace h := h_pos c h
            refine j_aload_n B dX10_worked_92 rfl 1 rfl ?_
            refine gf_RX10_65 B rfl (wf_65 hW) (wf_179 hW) dX10_worked_93 ?_
            refine j_iload B dX10_worked_96 4 rfl ?_
            refine j_iconst B dX10_worked_98 (v := 1) (by decide) ?_
            refine j_isub B dX10_worked_99 ?_
            refine j_aload_n B dX10_worked_100 rfl 1 rfl ?_
            refine gf_RX10_65 B rfl (wf_65 hW) (wf_179 hW) dX10_worked_101 ?_
            refine j_iload B dX10_worked_104 4 rfl ?_
            refine j_iconst B dX10_worked_106 (v := 1) (by decide) ?_
            refine j_isub B dX10_worked_107 ?_
            obtain ⟨b12, h⟩ := h_inb h
            refine j_iald B ((wf_83 hW)) b12 dX10_worked_108 ?_
            refine j_if_ne (tgt := 116) B dX10_worked_109 (by decide) (fun c => ?_) (fun c => ?_)
            · replace h := h_neg c h
              refine j_iconst B dX10_worked_116 (v := 0) (by decide) ?_
              refine j_locals [1, 2, 3, 4, 5] rfl ?_
              exact tX10_worked_117 B E hW ih (x1) (x3) (x4) (x5) ((x4 - 1)) (0) (vi)  h
            · replace h := h_pos c h
              refine j_iconst B dX10_worked_112 (v := 1) (by decide) ?_
              refine j_goto (tgt := 117) B dX10_worked_113 (by decide) ?_
              refine j_locals [1, 2, 3, 4, 5] rfl ?_
              exact tX10_worked_117 B E hW ih (x1) (x3) (x4) (x5) ((x4 - 1)) (1) (vi)  h
        · replace h := h_pos c h
          refine j_locals [1, 2, 3, 4, 5, 0] rfl ?_
          exact tX10_worked_45 B E hW ih (x1) (x3) (x4) (x5) ((vi 75 x5.toNatClampNeg)) (vi)  h
def fX10_worked (x1 : Int32) (x2 : Int32) (x3 : Int32) (vi0 : VI) : Option (Int32 × VI) := fX10_worked_12  FU x1 x3 0 ((130 * x1) + x2) vi0
theorem tX10_worked {G : GT} {sv : SV} {vi0 : VI} {vl0 : VL} {ns : Nat} {x1 : Int32} {x2 : Int32} {x3 : Int32} {r : Int32} {vi' : VI} (hW : WF sv ns) (h : fX10_worked x1 x2 x3 vi0 = some (r, vi')) : Call G mX10_worked 1 0 0 [.ref (G.1 + 63), .int x1, .int x2, .int x3] sv vi0 vl0 (QI r sv vi' vl0) := by
  refine j_mk (by decide +kernel) (Nat.le_of_ble_eq_true rfl) (fun Γ B E => ?_)
  show J G Γ 0 0 0 [(0, .ref (G.1 + 63)), (1, .int x1), (2, .int x2), (3, .int x3)] [] sv vi0 vl0
  unfold fX10_worked at h
  refine j_iconst B dX10_worked_0 (v := 0) (by decide) ?_
  refine j_istore (L' := [(4, .int 0), (0, .ref (G.1 + 63)), (1, .int x1), (2, .int x2), (3, .int x3)]) B dX10_worked_1 (by decide) rfl ?_
  refine j_sipush B dX10_worked_3 (v := 130) (by decide) ?_
  refine j_iload_n B dX10_worked_6 rfl 2 rfl ?_
  refine j_imul B dX10_worked_7 ?_
  refine j_iload_n B dX10_worked_8 rfl 3 rfl ?_
  refine j_iadd B dX10_worked_9 ?_
  refine j_istore (L' := [(5, .int ((130 * x1) + x2)), (4, .int 0), (0, .ref (G.1 + 63)), (1, .int x1), (2, .int x2), (3, .int x3)]) B dX10_worked_10 (by decide) rfl ?_
  refine j_locals [2, 3, 5, 1, 0] rfl ?_
  exact tX10_worked_12 B E hW FU (x1) (x3) (0) (((130 * x1) + x2)) (vi0)  h
def fX10_gives_47  (x1 : Int32) (x3 : Int32) (vi : VI) : Option (Int32 × VI) := if inb x3 122 = true then if inb x3 122 = true then (fX10_worked x1 (vi 78 x3.toNatClampNeg) (vi 79 x3.toNatClampNeg) vi).bind fun r5 => some (r5.1, r5.2) else none else none
theorem tX10_gives_47 {G : GT} {sv : SV} {vl0 : VL} {ns : Nat} {Γ : CT} {r : Int32} {vi' : VI} (B : Base G Γ mX10_gives 2 0 0) (E : Ends G Γ 0 0 (QI r sv vi' vl0)) (hW : WF sv ns) : ∀ (x1 : Int32) (x3 : Int32) (vi : VI), fX10_gives_47  x1 x3 vi = some (r, vi') → J G Γ 0 0 47 [(0, .ref (G.1 + 63)), (1, .int x1), (3, .int x3)] [] sv vi vl0 := by
  intro x1 x3 vi  h
  unfold fX10_gives_47 at h
  refine j_aload_n B dX10_gives_47 rfl 0 rfl ?_
  refine j_iload_n B dX10_gives_48 rfl 1 rfl ?_
  refine j_aload_n B dX10_gives_49 rfl 0 rfl ?_
  refine gf_RX10_55 B rfl (wf_65 hW) (wf_176 hW) dX10_gives_50 ?_
  refine j_iload_n B dX10_gives_53 rfl 2 rfl ?_
  obtain ⟨b3, h⟩ := h_inb h
  refine j_sald B ((wf_80 hW)) b3 dX10_gives_54 ?_
  refine j_aload_n B dX10_gives_55 rfl 0 rfl ?_
  refine gf_RX10_59 B rfl (wf_65 hW) (wf_177 hW) dX10_gives_56 ?_
  refine j_iload_n B dX10_gives_59 rfl 2 rfl ?_
  obtain ⟨b4, h⟩ := h_inb h
  refine j_sald B ((wf_81 hW)) b4 dX10_gives_60 ?_
  obtain ⟨r5, hr5, h⟩ := h_bind h
  refine j_cVI (rest := []) B (tX10_worked hW hr5) cls10 (wf_65 hW) jt_RX10_240 wi_X10_worked ws_X10_worked rfl (by decide) (Nat.le_refl _) (Nat.le_refl _) rfl (Nat.le_of_ble_eq_true rfl) dX10_gives_61 ?_
  obtain ⟨e1, e2⟩ := Prod.mk.inj (Option.some.inj h)
  subst e1
  subst e2
  exact j_iret B E rfl dX10_gives_64 (Nat.le_refl _) (Nat.le_refl _) ⟨rfl, rfl, rfl, rfl⟩
def fX10_gives_7  : Nat → Int32 → Int32 → Int32 → VI → Option (Int32 × VI)
  | 0, _, _, _, _ => none
  | F + 1, x1, x2, x3, vi => if inb x1 2 = true then if ((61 * x1) + (vi 77 x1.toNatClampNeg)) ≤ x3 then some (0, vi) else if inb x3 122 = true then if (vi 78 x3.toNatClampNeg) = x2 then fX10_gives_47  x1 x3 vi else if inb x3 122 = true then (fX10_worked x1 x2 (vi 78 x3.toNatClampNeg) vi).bind fun r7 => if r7.1 = 0 then if inb x3 122 = true then fX10_gives_7  F x1 (r7.2 79 x3.toNatClampNeg) (x3 + 1) r7.2 else none else fX10_gives_47  x1 x3 r7.2 else none else none else none
theorem tX10_gives_7 {G : GT} {sv : SV} {vl0 : VL} {ns : Nat} {Γ : CT} {r : Int32} {vi' : VI} (B : Base G Γ mX10_gives 2 0 0) (E : Ends G Γ 0 0 (QI r sv vi' vl0)) (hW : WF sv ns) : ∀ (F : Nat) (x1 : Int32) (x2 : Int32) (x3 : Int32) (vi : VI), fX10_gives_7  F x1 x2 x3 vi = some (r, vi') → J G Γ 0 0 7 [(0, .ref (G.1 + 63)), (1, .int x1), (2, .int x2), (3, .int x3)] [] sv vi vl0 := by
  intro F
  induction F with
  | zero =>
    intro x1 x2 x3 vi  h
    cases (show (none : Option (Int32 × VI)) = some (r, vi') from h)
  | succ F ih =>
    intro x1 x2 x3 vi  h
    rw [fX10_gives_7] at h
    refine j_iload_n B dX10_gives_7 rfl 3 rfl ?_
    refine j_bipush B dX10_gives_8 (v := 61) (by decide) ?_
    refine j_iload_n B dX10_gives_10 rfl 1 rfl ?_
    refine j_imul B dX10_gives_11 ?_
    refine j_aload_n B dX10_gives_12 rfl 0 rfl ?_
    refine gf_RX10_52 B rfl (wf_65 hW) (wf_175 hW) dX10_gives_13 ?_
    refine j_iload_n B dX10_gives_16 rfl 1 rfl ?_
    obtain ⟨b1, h⟩ := h_inb h
    refine j_iald B ((wf_79 hW)) b1 dX10_gives_17 ?_
    refine j_iadd B dX10_gives_18 ?_
    refine j_icmp_ge (tgt := 78) B dX10_gives_19 (by decide) (fun c => ?_) (fun c => ?_)
    · replace h := h_pos c h
      refine j_iconst B dX10_gives_78 (v := 0) (by decide) ?_
      obtain ⟨e1, e2⟩ := Prod.mk.inj (Option.some.inj h)
      subst e1
      subst e2
      exact j_iret B E rfl dX10_gives_79 (Nat.le_refl _) (Nat.le_refl _) ⟨rfl, rfl, rfl, rfl⟩
    · replace h := h_neg c h
      refine j_aload_n B dX10_gives_22 rfl 0 rfl ?_
      refine gf_RX10_55 B rfl (wf_65 hW) (wf_176 hW) dX10_gives_23 ?_
      refine j_iload_n B dX10_gives_26 rfl 3 rfl ?_
      obtain ⟨b2, h⟩ := h_inb h
      refine j_sald B ((wf_80 hW)) b2 dX10_gives_27 ?_
      refine j_iload_n B dX10_gives_28 rfl 2 rfl ?_
      refine j_icmp_eq (tgt := 47) B dX10_gives_29 (by decide) (fun c => ?_) (fun c => ?_)
      · replace h := h_pos c h
        refine j_locals [0, 1, 3] rfl ?_
        exact tX10_gives_47 B E hW (x1) (x3) (vi)  h
      · replace h := h_neg c h
        refine j_aload_n B dX10_gives_32 rfl 0 rfl ?_
        refine j_iload_n B dX10_gives_33 rfl 1 rfl ?_
        refine j_iload_n B dX10_gives_34 rfl 2 rfl ?_
        refine j_aload_n B dX10_gives_35 rfl 0 rfl ?_
        refine gf_RX10_55 B rfl (wf_65 hW) (wf_176 hW) dX10_gives_36 ?_
        refine j_iload_n B dX10_gives_39 rfl 3 rfl ?_
        obtain ⟨b6, h⟩ := h_inb h
        refine j_sald B ((wf_80 hW)) b6 dX10_gives_40 ?_
        obtain ⟨r7, hr7, h⟩ := h_bind h
        refine j_cVI (rest := []) B (tX10_worked hW hr7) cls10 (wf_65 hW) jt_RX10_240 wi_X10_worked ws_X10_worked rfl (by decide) (Nat.le_refl _) (Nat.le_refl _) rfl (Nat.le_of_ble_eq_true rfl) dX10_gives_41 ?_
        refine j_if_eq (tgt := 65) B dX10_gives_44 (by decide) (fun c => ?_) (fun c => ?_)
        · replace h := h_pos c h
          refine j_aload_n B dX10_gives_65 rfl 0 rfl ?_
          refine gf_RX10_59 B rfl (wf_65 hW) (wf_177 hW) dX10_gives_66 ?_
          refine j_iload_n B dX10_gives_69 rfl 3 rfl ?_
          obtain ⟨b8, h⟩ := h_inb h
          refine j_sald B ((wf_81 hW)) b8 dX10_gives_70 ?_
          refine j_istore_n (L' := [(2, .int (r7.2 79 x3.toNatClampNeg)), (0, .ref (G.1 + 63)), (1, .int x1), (3, .int x3)]) B dX10_gives_71 rfl (by decide) rfl ?_
          refine j_iinc (v := (x3 + 1)) (L' := [(3, .int (x3 + 1)), (2, .int (r7.2 79 x3.toNatClampNeg)), (0, .ref (G.1 + 63)), (1, .int x1)]) B dX10_gives_72 3 rfl rfl (by decide) rfl ?_
          refine j_goto (tgt := 7) B dX10_gives_75 (by decide) ?_
          refine j_locals [2, 3, 1, 0] rfl ?_
          exact ih (x1) ((r7.2 79 x3.toNatClampNeg)) ((x3 + 1)) (r7.2)  h
        · replace h := h_neg c h
          refine j_locals [0, 1, 3] rfl ?_
          exact tX10_gives_47 B E hW (x1) (x3) (r7.2)  h
def fX10_gives (x1 : Int32) (vi0 : VI) : Option (Int32 × VI) := fX10_gives_7  FU x1 0 (61 * x1) vi0
theorem tX10_gives {G : GT} {sv : SV} {vi0 : VI} {vl0 : VL} {ns : Nat} {x1 : Int32} {r : Int32} {vi' : VI} (hW : WF sv ns) (h : fX10_gives x1 vi0 = some (r, vi')) : Call G mX10_gives 2 0 0 [.ref (G.1 + 63), .int x1] sv vi0 vl0 (QI r sv vi' vl0) := by
  refine j_mk (by decide +kernel) (Nat.le_of_ble_eq_true rfl) (fun Γ B E => ?_)
  show J G Γ 0 0 0 [(0, .ref (G.1 + 63)), (1, .int x1)] [] sv vi0 vl0
  unfold fX10_gives at h
  refine j_iconst B dX10_gives_0 (v := 0) (by decide) ?_
  refine j_istore_n (L' := [(2, .int 0), (0, .ref (G.1 + 63)), (1, .int x1)]) B dX10_gives_1 rfl (by decide) rfl ?_
  refine j_bipush B dX10_gives_2 (v := 61) (by decide) ?_
  refine j_iload_n B dX10_gives_4 rfl 2 rfl ?_
  refine j_imul B dX10_gives_5 ?_
  refine j_istore_n (L' := [(3, .int (61 * x1)), (2, .int 0), (0, .ref (G.1 + 63)), (1, .int x1)]) B dX10_gives_6 rfl (by decide) rfl ?_
  refine j_locals [2, 3, 1, 0] rfl ?_
  exact tX10_gives_7 B E hW FU (x1) (0) ((61 * x1)) (vi0)  h
def fX10_law  (vi0 : VI) : Option (Int32 × VI) := (fX10_readText 0 vi0).bind fun r1 => if r1.1 < 0 then some (1, (j_up r1.2 63 28 1)) else some (((-100) - r1.1), r1.2)
theorem tX10_law {G : GT} {sv : SV} {vi0 : VI} {vl0 : VL} {ns : Nat} {r : Int32} {vi' : VI} (hW : WF sv ns) (h : fX10_law vi0 = some (r, vi')) : Call G mX10_law 405 0 0 [.ref (G.1 + 63)] sv vi0 vl0 (QI r sv vi' vl0) := by
  refine j_mk (by decide +kernel) (Nat.le_of_ble_eq_true rfl) (fun Γ B E => ?_)
  show J G Γ 0 0 0 [(0, .ref (G.1 + 63))] [] sv vi0 vl0
  unfold fX10_law at h
  refine j_aload_n B dX10_law_0 rfl 0 rfl ?_
  refine j_iconst B dX10_law_1 (v := 0) (by decide) ?_
  obtain ⟨r1, hr1, h⟩ := h_bind h
  refine j_cVI (rest := []) B (tX10_readText hW hr1) cls10 (wf_65 hW) jt_RX10_243 wi_X10_readText ws_X10_readText rfl (by decide) (Nat.le_refl _) (Nat.le_refl _) rfl (Nat.le_of_ble_eq_true rfl) dX10_law_2 ?_
  refine j_istore_n (L' := [(1, .int r1.1), (0, .ref (G.1 + 63))]) B dX10_law_5 rfl (by decide) rfl ?_
  refine j_iload_n B dX10_law_6 rfl 0 rfl ?_
  refine j_if_lt (tgt := 15) B dX10_law_7 (by decide) (fun c => ?_) (fun c => ?_)
  · replace h := h_pos c h
    refine j_aload_n B dX10_law_15 rfl 1 rfl ?_
    refine j_iconst B dX10_law_16 (v := 1) (by decide) ?_
    refine pf_RX10_246 B rfl (wf_65 hW) (Or.inr rfl) dX10_law_17 ?_
    refine j_iconst B dX10_law_20 (v := 1) (by decide) ?_
    obtain ⟨e1, e2⟩ := Prod.mk.inj (Option.some.inj h)
    subst e1
    subst e2
    exact j_iret B E rfl dX10_law_21 (Nat.le_refl _) (Nat.le_refl _) ⟨rfl, rfl, rfl, rfl⟩
  · replace h := h_neg c h
    refine j_bipush B dX10_law_10 (v := (-100)) (by decide) ?_
    refine j_iload_n B dX10_law_12 rfl 0 rfl ?_
    refine j_isub B dX10_law_13 ?_
    obtain ⟨e1, e2⟩ := Prod.mk.inj (Option.some.inj h)
    subst e1
    subst e2
    exact j_iret B E rfl dX10_law_14 (Nat.le_refl _) (Nat.le_refl _) ⟨rfl, rfl, rfl, rfl⟩
def fX10_laysBy_82  (x5 : Int32) (vi : VI) : Option (Int32 × VI) := if 0 ≤ x5 then if x5 ≤ 9 then some (x5, vi) else some (9, vi) else some (0, vi)
theorem tX10_laysBy_82 {G : GT} {sv : SV} {vl0 : VL} {ns : Nat} {Γ : CT} {r : Int32} {vi' : VI} (B : Base G Γ mX10_laysBy 3 0 0) (E : Ends G Γ 0 0 (QI r sv vi' vl0)) (hW : WF sv ns) : ∀ (x5 : Int32) (vi : VI), fX10_laysBy_82  x5 vi = some (r, vi') → J G Γ 0 0 82 [(5, .int x5)] [] sv vi vl0 := by
  intro x5 vi  h
  unfold fX10_laysBy_82 at h
  refine j_iload B dX10_laysBy_82 0 rfl ?_
  refine j_if_ge (tgt := 91) B dX10_laysBy_84 (by decide) (fun c => ?_) (fun c => ?_)
  · replace h := h_pos c h
    refine j_iload B dX10_laysBy_91 0 rfl ?_
    refine j_bipush B dX10_laysBy_93 (v := 9) (by decide) ?_
    refine j_icmp_le (tgt := 103) B dX10_laysBy_95 (by decide) (fun c => ?_) (fun c => ?_)
    · replace h := h_pos c h
      refine j_iload B dX10_laysBy_103 0 rfl ?_
      obtain ⟨e1, e2⟩ := Prod.mk.inj (Option.some.inj h)
      subst e1
      subst e2
      exact j_iret B E rfl dX10_laysBy_105 (Nat.le_refl _) (Nat.le_refl _) ⟨rfl, rfl, rfl, rfl⟩
    · replace h := h_neg c h
      refine j_bipush B dX10_laysBy_98 (v := 9) (by decide) ?_
      refine j_goto (tgt := 105) B dX10_laysBy_100 (by decide) ?_
      obtain ⟨e1, e2⟩ := Prod.mk.inj (Option.some.inj h)
      subst e1
      subst e2
      exact j_iret B E rfl dX10_laysBy_105 (Nat.le_refl _) (Nat.le_refl _) ⟨rfl, rfl, rfl, rfl⟩
  · replace h := h_neg c h
    refine j_iconst B dX10_laysBy_87 (v := 0) (by decide) ?_
    refine j_goto (tgt := 105) B dX10_laysBy_88 (by decide) ?_
    obtain ⟨e1, e2⟩ := Prod.mk.inj (Option.some.inj h)
    subst e1
    subst e2
    exact j_iret B E rfl dX10_laysBy_105 (Nat.le_refl _) (Nat.le_refl _) ⟨rfl, rfl, rfl, rfl⟩
def fX10_laysBy (x1 : Int32) (x2 : Int32) (x3 : Int32) (x4 : Int32) (vi0 : VI) : Option (Int32 × VI) := if inb x1 5 = true then if (vi0 63 28) = 0 then fX10_laysBy_82  (x3 - ((vi0 65 x1.toNatClampNeg) / 3)) vi0 else if inb x1 5 = true then if inb x1 5 = true then (fX10_gives 0 (j_up (j_up (j_up (j_up (j_up (j_up vi0 80 (0 : Int32).toNatClampNeg x3) 80 (1 : Int32).toNatClampNeg ((j_up vi0 80 (0 : Int32).toNatClampNeg x3) 64 x1.toNatClampNeg)) 80 (2 : Int32).toNatClampNeg ((j_up (j_up vi0 80 (0 : Int32).toNatClampNeg x3) 80 (1 : Int32).toNatClampNeg ((j_up vi0 80 (0 : Int32).toNatClampNeg x3) 64 x1.toNatClampNeg)) 65 x1.toNatClampNeg)) 80 (3 : Int32).toNatClampNeg ((j_up (j_up (j_up vi0 80 (0 : Int32).toNatClampNeg x3) 80 (1 : Int32).toNatClampNeg ((j_up vi0 80 (0 : Int32).toNatClampNeg x3) 64 x1.toNatClampNeg)) 80 (2 : Int32).toNatClampNeg ((j_up (j_up vi0 80 (0 : Int32).toNatClampNeg x3) 80 (1 : Int32).toNatClampNeg ((j_up vi0 80 (0 : Int32).toNatClampNeg x3) 64 x1.toNatClampNeg)) 65 x1.toNatClampNeg)) 63 5)) 80 (4 : Int32).toNatClampNeg x4) 80 (5 : Int32).toNatClampNeg x2)).bind fun r4 => fX10_laysBy_82  r4.1 r4.2 else none else none else none
theorem tX10_laysBy {G : GT} {sv : SV} {vi0 : VI} {vl0 : VL} {ns : Nat} {x1 : Int32} {x2 : Int32} {x3 : Int32} {x4 : Int32} {r : Int32} {vi' : VI} (hW : WF sv ns) (h : fX10_laysBy x1 x2 x3 x4 vi0 = some (r, vi')) : Call G mX10_laysBy 3 0 0 [.ref (G.1 + 63), .int x1, .int x2, .int x3, .int x4] sv vi0 vl0 (QI r sv vi' vl0) := by
  refine j_mk (by decide +kernel) (Nat.le_of_ble_eq_true rfl) (fun Γ B E => ?_)
  show J G Γ 0 0 0 [(0, .ref (G.1 + 63)), (1, .int x1), (2, .int x2), (3, .int x3), (4, .int x4)] [] sv vi0 vl0
  unfold fX10_laysBy at h
  refine j_iload_n B dX10_laysBy_0 rfl 3 rfl ?_
  refine j_aload_n B dX10_laysBy_1 rfl 0 rfl ?_
  refine gf_RX10_15 B rfl (wf_65 hW) (wf_163 hW) dX10_laysBy_2 ?_
  refine j_iload_n B dX10_laysBy_5 rfl 1 rfl ?_
  obtain ⟨b1, h⟩ := h_inb h
  refine j_iald B ((wf_67 hW)) b1 dX10_laysBy_6 ?_
  refine j_iconst B dX10_laysBy_7 (v := 3) (by decide) ?_
  refine j_idiv B dX10_laysBy_8 (by decide) ?_
  refine j_isub B dX10_laysBy_9 ?_
  refine j_istore (L' := [(5, .int (x3 - ((vi0 65 x1.toNatClampNeg) / 3))), (0, .ref (G.1 + 63)), (1, .int x1), (2, .int x2), (3, .int x3), (4, .int x4)]) B dX10_laysBy_10 (by decide) rfl ?_
  refine j_aload_n B dX10_laysBy_12 rfl 1 rfl ?_
  refine gf_RX10_246 B rfl (wf_65 hW) dX10_laysBy_13 ?_
  refine j_if_eq (tgt := 82) B dX10_laysBy_16 (by decide) (fun c => ?_) (fun c => ?_)
  · replace h := h_pos c h
    refine j_locals [0] rfl ?_
    exact tX10_laysBy_82 B E hW ((x3 - ((vi0 65 x1.toNatClampNeg) / 3))) (vi0)  h
  · replace h := h_neg c h
    refine j_aload_n B dX10_laysBy_19 rfl 1 rfl ?_
    refine gf_RX10_62 B rfl (wf_65 hW) (wf_178 hW) dX10_laysBy_20 ?_
    refine j_iconst B dX10_laysBy_23 (v := 0) (by decide) ?_
    refine j_iload_n B dX10_laysBy_24 rfl 4 rfl ?_
    refine j_iast B ((wf_82 hW)) (vp_in_iff.mpr ⟨by decide, by decide⟩) dX10_laysBy_25 ?_
    refine j_aload_n B dX10_laysBy_26 rfl 1 rfl ?_
    refine gf_RX10_62 B rfl (wf_65 hW) (wf_178 hW) dX10_laysBy_27 ?_
    refine j_iconst B dX10_laysBy_30 (v := 1) (by decide) ?_
    refine j_aload_n B dX10_laysBy_31 rfl 1 rfl ?_
    refine gf_RX10_9 B rfl (wf_65 hW) (wf_162 hW) dX10_laysBy_32 ?_
    refine j_iload_n B dX10_laysBy_35 rfl 2 rfl ?_
    obtain ⟨b2, h⟩ := h_inb h
    refine j_iald B ((wf_66 hW)) b2 dX10_laysBy_36 ?_
    refine j_iast B ((wf_82 hW)) (vp_in_iff.mpr ⟨by decide, by decide⟩) dX10_laysBy_37 ?_
    refine j_aload_n B dX10_laysBy_38 rfl 1 rfl ?_
    refine gf_RX10_62 B rfl (wf_65 hW) (wf_178 hW) dX10_laysBy_39 ?_
    refine j_iconst B dX10_laysBy_42 (v := 2) (by decide) ?_
    refine j_aload_n B dX10_laysBy_43 rfl 1 rfl ?_
    refine gf_RX10_15 B rfl (wf_65 hW) (wf_163 hW) dX10_laysBy_44 ?_
    refine j_iload_n B dX10_laysBy_47 rfl 2 rfl ?_
    obtain ⟨b3, h⟩ := h_inb h
    refine j_iald B ((wf_67 hW)) b3 dX10_laysBy_48 ?_
    refine j_iast B ((wf_82 hW)) (vp_in_iff.mpr ⟨by decide, by decide⟩) dX10_laysBy_49 ?_
    refine j_aload_n B dX10_laysBy_50 rfl 1 rfl ?_
    refine gf_RX10_62 B rfl (wf_65 hW) (wf_178 hW) dX10_laysBy_51 ?_
    refine j_iconst B dX10_laysBy_54 (v := 3) (by decide) ?_
    refine j_aload_n B dX10_laysBy_55 rfl 1 rfl ?_
    refine gf_RX10_136 B rfl (wf_65 hW) dX10_laysBy_56 ?_
    refine j_iast B ((wf_82 hW)) (vp_in_iff.mpr ⟨by decide, by decide⟩) dX10_laysBy_59 ?_
    refine j_aload_n B dX10_laysBy_60 rfl 1 rfl ?_
    refine gf_RX10_62 B rfl (wf_65 hW) (wf_178 hW) dX10_laysBy_61 ?_
    refine j_iconst B dX10_laysBy_64 (v := 4) (by decide) ?_
    refine j_iload B dX10_laysBy_65 5 rfl ?_
    refine j_iast B ((wf_82 hW)) (vp_in_iff.mpr ⟨by decide, by decide⟩) dX10_laysBy_67 ?_
    refine j_aload_n B dX10_laysBy_68 rfl 1 rfl ?_
    refine gf_RX10_62 B rfl (wf_65 hW) (wf_178 hW) dX10_laysBy_69 ?_
    refine j_iconst B dX10_laysBy_72 (v := 5) (by decide) ?_
    refine j_iload_n B dX10_laysBy_73 rfl 3 rfl ?_
    refine j_iast B ((wf_82 hW)) (vp_in_iff.mpr ⟨by decide, by decide⟩) dX10_laysBy_74 ?_
    refine j_aload_n B dX10_laysBy_75 rfl 1 rfl ?_
    refine j_iconst B dX10_laysBy_76 (v := 0) (by decide) ?_
    obtain ⟨r4, hr4, h⟩ := h_bind h
    refine j_cVI (rest := []) B (tX10_gives hW hr4) cls10 (wf_65 hW) jt_RX10_250 wi_X10_gives ws_X10_gives rfl (by decide) (Nat.le_refl _) (Nat.le_refl _) rfl (Nat.le_of_ble_eq_true rfl) dX10_laysBy_77 ?_
    refine j_istore (L' := [(5, .int r4.1), (0, .ref (G.1 + 63)), (1, .int x1), (2, .int x2), (3, .int x3), (4, .int x4)]) B dX10_laysBy_80 (by decide) rfl ?_
    refine j_locals [0] rfl ?_
    exact tX10_laysBy_82 B E hW (r4.1) (r4.2)  h
def fX10_whomIn (x1 : Int32)  : Option (Int32) := if 60 ≤ x1 then some ((x1 - 60)) else some ((x1 / 10))
theorem tX10_whomIn {G : GT} {sv : SV} {vi0 : VI} {vl0 : VL} {ns : Nat} {x1 : Int32} {r : Int32} (hW : WF sv ns) (h : fX10_whomIn x1 = some (r)) : Call G mX10_whomIn 0 0 0 [.ref (G.1 + 63), .int x1] sv vi0 vl0 (QI r sv vi0 vl0) := by
  refine j_mk (by decide +kernel) (Nat.le_of_ble_eq_true rfl) (fun Γ B E => ?_)
  show J G Γ 0 0 0 [(0, .ref (G.1 + 63)), (1, .int x1)] [] sv vi0 vl0
  unfold fX10_whomIn at h
  refine j_iload_n B dX10_whomIn_0 rfl 1 rfl ?_
  refine j_bipush B dX10_whomIn_1 (v := 60) (by decide) ?_
  refine j_icmp_ge (tgt := 13) B dX10_whomIn_3 (by decide) (fun c => ?_) (fun c => ?_)
  · replace h := h_pos c h
    refine j_iload_n B dX10_whomIn_13 rfl 1 rfl ?_
    refine j_bipush B dX10_whomIn_14 (v := 60) (by decide) ?_
    refine j_isub B dX10_whomIn_16 ?_
    have e1 := Option.some.inj h
    subst e1
    exact j_iret B E rfl dX10_whomIn_17 (Nat.le_refl _) (Nat.le_refl _) ⟨rfl, rfl, rfl, rfl⟩
  · replace h := h_neg c h
    refine j_iload_n B dX10_whomIn_6 rfl 1 rfl ?_
    refine j_bipush B dX10_whomIn_7 (v := 10) (by decide) ?_
    refine j_idiv B dX10_whomIn_9 (by decide) ?_
    refine j_goto (tgt := 17) B dX10_whomIn_10 (by decide) ?_
    have e1 := Option.some.inj h
    subst e1
    exact j_iret B E rfl dX10_whomIn_17 (Nat.le_refl _) (Nat.le_refl _) ⟨rfl, rfl, rfl, rfl⟩
def fX10_muchIn (x1 : Int32) (vi0 : VI) : Option (Int32) := if 60 ≤ x1 then if inb (x1 - 60) 6 = true then some ((vi0 66 (x1 - 60).toNatClampNeg)) else none else some ((x1 - x1 / 10 * 10))
theorem tX10_muchIn {G : GT} {sv : SV} {vi0 : VI} {vl0 : VL} {ns : Nat} {x1 : Int32} {r : Int32} (hW : WF sv ns) (h : fX10_muchIn x1 vi0 = some (r)) : Call G mX10_muchIn 0 0 0 [.ref (G.1 + 63), .int x1] sv vi0 vl0 (QI r sv vi0 vl0) := by
  refine j_mk (by decide +kernel) (Nat.le_of_ble_eq_true rfl) (fun Γ B E => ?_)
  show J G Γ 0 0 0 [(0, .ref (G.1 + 63)), (1, .int x1)] [] sv vi0 vl0
  unfold fX10_muchIn at h
  refine j_iload_n B dX10_muchIn_0 rfl 1 rfl ?_
  refine j_bipush B dX10_muchIn_1 (v := 60) (by decide) ?_
  refine j_icmp_ge (tgt := 13) B dX10_muchIn_3 (by decide) (fun c => ?_) (fun c => ?_)
  · replace h := h_pos c h
    refine j_aload_n B dX10_muchIn_13 rfl 0 rfl ?_
    refine gf_RX10_18 B rfl (wf_65 hW) (wf_164 hW) dX10_muchIn_14 ?_
    refine j_iload_n B dX10_muchIn_17 rfl 1 rfl ?_
    refine j_bipush B dX10_muchIn_18 (v := 60) (by decide) ?_
    refine j_isub B dX10_muchIn_20 ?_
    obtain ⟨b1, h⟩ := h_inb h
    refine j_iald B ((wf_68 hW)) b1 dX10_muchIn_21 ?_
    have e1 := Option.some.inj h
    subst e1
    exact j_iret B E rfl dX10_muchIn_22 (Nat.le_refl _) (Nat.le_refl _) ⟨rfl, rfl, rfl, rfl⟩
  · replace h := h_neg c h
    refine j_iload_n B dX10_muchIn_6 rfl 1 rfl ?_
    refine j_bipush B dX10_muchIn_7 (v := 10) (by decide) ?_
    refine j_irem B dX10_muchIn_9 (by decide) ?_
    refine j_goto (tgt := 22) B dX10_muchIn_10 (by decide) ?_
    have e1 := Option.some.inj h
    subst e1
    exact j_iret B E rfl dX10_muchIn_22 (Nat.le_refl _) (Nat.le_refl _) ⟨rfl, rfl, rfl, rfl⟩
def fX10_lays (x1 : Int32) (x2 : Int32) (vi0 : VI) : Option (Int32 × VI) := (fX10_isSill x1 vi0).bind fun r1 => if r1 = true then (fX10_in x2 0 65).bind fun r2 => if r2 = true then (fX10_whomIn x2).bind fun r3 => (fX10_muchIn x2 vi0).bind fun r4 => if inb x1 5 = true then (fX10_laysBy x1 r3 r4 (vi0 67 x1.toNatClampNeg) vi0).bind fun r6 => some (r6.1, r6.2) else none else some ((-1), vi0) else some ((-1), vi0)
theorem tX10_lays {G : GT} {sv : SV} {vi0 : VI} {vl0 : VL} {ns : Nat} {x1 : Int32} {x2 : Int32} {r : Int32} {vi' : VI} (hW : WF sv ns) (h : fX10_lays x1 x2 vi0 = some (r, vi')) : Call G mX10_lays 4 0 0 [.ref (G.1 + 63), .int x1, .int x2] sv vi0 vl0 (QI r sv vi' vl0) := by
  refine j_mk (by decide +kernel) (Nat.le_of_ble_eq_true rfl) (fun Γ B E => ?_)
  show J G Γ 0 0 0 [(0, .ref (G.1 + 63)), (1, .int x1), (2, .int x2)] [] sv vi0 vl0
  unfold fX10_lays at h
  refine j_aload_n B dX10_lays_0 rfl 0 rfl ?_
  refine j_iload_n B dX10_lays_1 rfl 1 rfl ?_
  obtain ⟨r1, hr1, h⟩ := h_bind h
  refine j_cVI (rest := []) B (tX10_isSill hW hr1) cls10 (wf_65 hW) jt_RX10_152 wi_X10_isSill ws_X10_isSill rfl (by decide) (Nat.le_refl _) (Nat.le_refl _) rfl (Nat.le_of_ble_eq_true rfl) dX10_lays_2 ?_
  refine j_if_eq (tgt := 42) B dX10_lays_5 (by decide) (fun c => ?_) (fun c => ?_)
  · replace h := h_neg (b2i_0 c) h
    refine j_iconst B dX10_lays_42 (v := (-1)) (by decide) ?_
    obtain ⟨e1, e2⟩ := Prod.mk.inj (Option.some.inj h)
    subst e1
    subst e2
    exact j_iret B E rfl dX10_lays_43 (Nat.le_refl _) (Nat.le_refl _) ⟨rfl, rfl, rfl, rfl⟩
  · replace h := h_pos (b2i_1 c) h
    refine j_iload_n B dX10_lays_8 rfl 2 rfl ?_
    refine j_iconst B dX10_lays_9 (v := 0) (by decide) ?_
    refine j_bipush B dX10_lays_10 (v := 65) (by decide) ?_
    obtain ⟨r2, hr2, h⟩ := h_bind h
    refine j_cSI (rest := []) B (tX10_in hr2) jt_RX10_124 wst_X10_in rfl (by decide) (Nat.le_refl _) (Nat.le_refl _) rfl (Nat.le_of_ble_eq_true rfl) dX10_lays_12 ?_
    refine j_if_eq (tgt := 42) B dX10_lays_15 (by decide) (fun c => ?_) (fun c => ?_)
    · replace h := h_neg (b2i_0 c) h
      refine j_iconst B dX10_lays_42 (v := (-1)) (by decide) ?_
      obtain ⟨e1, e2⟩ := Prod.mk.inj (Option.some.inj h)
      subst e1
      subst e2
      exact j_iret B E rfl dX10_lays_43 (Nat.le_refl _) (Nat.le_refl _) ⟨rfl, rfl, rfl, rfl⟩
    · replace h := h_pos (b2i_1 c) h
      refine j_aload_n B dX10_lays_18 rfl 0 rfl ?_
      refine j_iload_n B dX10_lays_19 rfl 1 rfl ?_
      refine j_aload_n B dX10_lays_20 rfl 0 rfl ?_
      refine j_iload_n B dX10_lays_21 rfl 2 rfl ?_
      obtain ⟨r3, hr3, h⟩ := h_bind h
      refine j_cVI (rest := [.int x1, .ref (G.1 + 63)]) B (tX10_whomIn hW hr3) cls10 (wf_65 hW) jt_RX10_253 wi_X10_whomIn ws_X10_whomIn rfl (by decide) (Nat.le_refl _) (Nat.le_refl _) rfl (Nat.le_of_ble_eq_true rfl) dX10_lays_22 ?_
      refine j_aload_n B dX10_lays_25 rfl 0 rfl ?_
      refine j_iload_n B dX10_lays_26 rfl 2 rfl ?_
      obtain ⟨r4, hr4, h⟩ := h_bind h
      refine j_cVI (rest := [.int r3, .int x1, .ref (G.1 + 63)]) B (tX10_muchIn hW hr4) cls10 (wf_65 hW) jt_RX10_256 wi_X10_muchIn ws_X10_muchIn rfl (by decide) (Nat.le_refl _) (Nat.le_refl _) rfl (Nat.le_of_ble_eq_true rfl) dX10_lays_27 ?_
      refine j_aload_n B dX10_lays_30 rfl 0 rfl ?_
      refine gf_RX10_21 B rfl (wf_65 hW) (wf_165 hW) dX10_lays_31 ?_
      refine j_iload_n B dX10_lays_34 rfl 1 rfl ?_
      obtain ⟨b5, h⟩ := h_inb h
      refine j_iald B ((wf_69 hW)) b5 dX10_lays_35 ?_
      obtain ⟨r6, hr6, h⟩ := h_bind h
      refine j_cVI (rest := []) B (tX10_laysBy hW hr6) cls10 (wf_65 hW) jt_RX10_259 wi_X10_laysBy ws_X10_laysBy rfl (by decide) (Nat.le_refl _) (Nat.le_refl _) rfl (Nat.le_of_ble_eq_true rfl) dX10_lays_36 ?_
      refine j_goto (tgt := 43) B dX10_lays_39 (by decide) ?_
      obtain ⟨e1, e2⟩ := Prod.mk.inj (Option.some.inj h)
      subst e1
      subst e2
      exact j_iret B E rfl dX10_lays_43 (Nat.le_refl _) (Nat.le_refl _) ⟨rfl, rfl, rfl, rfl⟩
