def fX3_thickFrom_10 (o : Nat) (vi0 : VI) : Nat → Int32 → Int32 → Option (Int32)
  | 0, _, _ => none
  | F + 1, x2, x3 => if (vi0 o 2) ≤ x3 then some (x2) else if inb x3 12 = true then fX3_thickFrom_10 o vi0 F (x2 + (vi0 (o + 2) x3.toNatClampNeg)) (x3 + 1) else none
theorem tX3_thickFrom_10 {G : GT} {sv : SV} {vi0 : VI} {vl0 : VL} {Γ : CT} {o : Nat} {r : Int32} (B : Base G Γ mX3_thickFrom 0 0 0) (E : Ends G Γ 0 0 (QI r sv vi0 vl0)) (ho : isDust sv o) : ∀ (F : Nat) (x2 : Int32) (x3 : Int32), fX3_thickFrom_10 o vi0 F x2 x3 = some (r) → J G Γ 0 0 10 [(0, .ref (G.1 + o)), (2, .int x2), (3, .int x3)] [] sv vi0 vl0 := by
  intro F
  induction F with
  | zero =>
    intro x2 x3  h
    cases (show (none : Option (Int32)) = some (r) from h)
  | succ F ih =>
    intro x2 x3  h
    rw [fX3_thickFrom_10] at h
    refine j_iload_n B dX3_thickFrom_10 rfl 2 rfl ?_
    refine j_aload_n B dX3_thickFrom_11 rfl 0 rfl ?_
    refine gf_RX3_24 B rfl ((ho).1) dX3_thickFrom_12 ?_
    refine j_icmp_ge (tgt := 33) B dX3_thickFrom_15 (by decide) (fun c => ?_) (fun c => ?_)
    · replace h := h_pos c h
      refine j_iload_n B dX3_thickFrom_33 rfl 1 rfl ?_
      have e1 := Option.some.inj h
      subst e1
      exact j_iret B E rfl dX3_thickFrom_34 (Nat.le_refl _) (Nat.le_refl _) ⟨rfl, rfl, rfl, rfl⟩
    · replace h := h_neg c h
      refine j_iload_n B dX3_thickFrom_18 rfl 1 rfl ?_
      refine j_aload_n B dX3_thickFrom_19 rfl 0 rfl ?_
      refine gf_RX3_15 B rfl ((ho).1) (ho).2.2.1 dX3_thickFrom_20 ?_
      refine j_iload_n B dX3_thickFrom_23 rfl 2 rfl ?_
      obtain ⟨b1, h⟩ := h_inb h
      refine j_iald B ((ho).2.2.2.2) b1 dX3_thickFrom_24 ?_
      refine j_iadd B dX3_thickFrom_25 ?_
      refine j_istore_n (L' := [(2, .int (x2 + (vi0 (o + 2) x3.toNatClampNeg))), (0, .ref (G.1 + o)), (3, .int x3)]) B dX3_thickFrom_26 rfl (by decide) rfl ?_
      refine j_iinc (v := (x3 + 1)) (L' := [(3, .int (x3 + 1)), (2, .int (x2 + (vi0 (o + 2) x3.toNatClampNeg))), (0, .ref (G.1 + o))]) B dX3_thickFrom_27 2 rfl rfl (by decide) rfl ?_
      refine j_goto (tgt := 10) B dX3_thickFrom_30 (by decide) ?_
      refine j_locals [2, 1, 0] rfl ?_
      exact ih ((x2 + (vi0 (o + 2) x3.toNatClampNeg))) ((x3 + 1))  h
def fX3_thickFrom (o : Nat) (x1 : Int32) (vi0 : VI) : Option (Int32) := if 0 ≤ x1 then fX3_thickFrom_10 o vi0 FU 0 x1 else some (0)
theorem tX3_thickFrom {G : GT} {sv : SV} {vi0 : VI} {vl0 : VL} {o : Nat} {x1 : Int32} {r : Int32} (ho : isDust sv o) (h : fX3_thickFrom o x1 vi0 = some (r)) : Call G mX3_thickFrom 0 0 0 [.ref (G.1 + o), .int x1] sv vi0 vl0 (QI r sv vi0 vl0) := by
  refine j_mk (by decide +kernel) (Nat.le_of_ble_eq_true rfl) (fun Γ B E => ?_)
  show J G Γ 0 0 0 [(0, .ref (G.1 + o)), (1, .int x1)] [] sv vi0 vl0
  unfold fX3_thickFrom at h
  refine j_iload_n B dX3_thickFrom_0 rfl 1 rfl ?_
  refine j_if_ge (tgt := 6) B dX3_thickFrom_1 (by decide) (fun c => ?_) (fun c => ?_)
  · replace h := h_pos c h
    refine j_iconst B dX3_thickFrom_6 (v := 0) (by decide) ?_
    refine j_istore_n (L' := [(2, .int 0), (0, .ref (G.1 + o)), (1, .int x1)]) B dX3_thickFrom_7 rfl (by decide) rfl ?_
    refine j_iload_n B dX3_thickFrom_8 rfl 2 rfl ?_
    refine j_istore_n (L' := [(3, .int x1), (2, .int 0), (0, .ref (G.1 + o)), (1, .int x1)]) B dX3_thickFrom_9 rfl (by decide) rfl ?_
    refine j_locals [2, 1, 0] rfl ?_
    exact tX3_thickFrom_10 B E ho FU (0) (x1)  h
  · replace h := h_neg c h
    refine j_iconst B dX3_thickFrom_4 (v := 0) (by decide) ?_
    have e1 := Option.some.inj h
    subst e1
    exact j_iret B E rfl dX3_thickFrom_5 (Nat.le_refl _) (Nat.le_refl _) ⟨rfl, rfl, rfl, rfl⟩
def fX3_allThick (o : Nat) (vi0 : VI) : Option (Int32) := (fX3_thickFrom o 0 vi0).bind fun r1 => some (r1)
theorem tX3_allThick {G : GT} {sv : SV} {vi0 : VI} {vl0 : VL} {o : Nat} {r : Int32} (ho : isDust sv o) (h : fX3_allThick o vi0 = some (r)) : Call G mX3_allThick 1 0 0 [.ref (G.1 + o)] sv vi0 vl0 (QI r sv vi0 vl0) := by
  refine j_mk (by decide +kernel) (Nat.le_of_ble_eq_true rfl) (fun Γ B E => ?_)
  show J G Γ 0 0 0 [(0, .ref (G.1 + o))] [] sv vi0 vl0
  unfold fX3_allThick at h
  refine j_aload_n B dX3_allThick_0 rfl 0 rfl ?_
  refine j_iconst B dX3_allThick_1 (v := 0) (by decide) ?_
  obtain ⟨r1, hr1, h⟩ := h_bind h
  refine j_cVI (rest := []) B (tX3_thickFrom (ho) hr1) cls3 ((ho).1) jt_RX3_44 wi_X3_thickFrom ws_X3_thickFrom rfl (by decide) (Nat.le_refl _) (Nat.le_refl _) rfl (Nat.le_of_ble_eq_true rfl) dX3_allThick_2 ?_
  have e1 := Option.some.inj h
  subst e1
  exact j_iret B E rfl dX3_allThick_5 (Nat.le_refl _) (Nat.le_refl _) ⟨rfl, rfl, rfl, rfl⟩
def fJ7_fill_d0a16_6 (x0 : Nat) (n0 : Nat) : Nat → Int64 → Int32 → Int32 → VL → Option (VL)
  | 0, _, _, _, _ => none
  | F + 1, x1, x3, x4, vl => if x4 ≤ x3 then some (vl) else if inb x3 n0 = true then fJ7_fill_d0a16_6 x0 n0 F x1 (x3 + 1) x4 (j_up vl x0 x3.toNatClampNeg x1) else none
theorem tJ7_fill_d0a16_6 {G : GT} {sv : SV} {vi0 : VI} {Γ : CT} {x0 : Nat} {n0 : Nat} {vl' : VL} (B : Base G Γ mJ7_fill_d0a16 0 0 0) (E : Ends G Γ 0 0 (QV sv vi0 vl')) (h0 : Ar sv x0 20 n0) : ∀ (F : Nat) (x1 : Int64) (x3 : Int32) (x4 : Int32) (vl : VL), fJ7_fill_d0a16_6 x0 n0 F x1 x3 x4 vl = some (vl') → J G Γ 0 0 6 [(0, .ref (G.1 + x0)), (1, .long x1), (3, .int x3), (4, .int x4)] [] sv vi0 vl := by
  intro F
  induction F with
  | zero =>
    intro x1 x3 x4 vl  h
    cases (show (none : Option (VL)) = some (vl') from h)
  | succ F ih =>
    intro x1 x3 x4 vl  h
    rw [fJ7_fill_d0a16_6] at h
    refine j_iload_n B dJ7_fill_d0a16_6 rfl 2 rfl ?_
    refine j_iload B dJ7_fill_d0a16_7 3 rfl ?_
    refine j_icmp_ge (tgt := 22) B dJ7_fill_d0a16_9 (by decide) (fun c => ?_) (fun c => ?_)
    · replace h := h_pos c h
      have e1 := Option.some.inj h
      subst e1
      exact j_vret B E rfl dJ7_fill_d0a16_22 (Nat.le_refl _) (Nat.le_refl _) ⟨rfl, rfl, rfl, rfl⟩
    · replace h := h_neg c h
      refine j_aload_n B dJ7_fill_d0a16_12 rfl 0 rfl ?_
      refine j_iload_n B dJ7_fill_d0a16_13 rfl 2 rfl ?_
      refine j_lload_n B dJ7_fill_d0a16_14 rfl 1 rfl ?_
      obtain ⟨b1, h⟩ := h_inb h
      refine j_last B (h0) b1 dJ7_fill_d0a16_15 ?_
      refine j_iinc (v := (x3 + 1)) (L' := [(3, .int (x3 + 1)), (0, .ref (G.1 + x0)), (1, .long x1), (4, .int x4)]) B dJ7_fill_d0a16_16 2 rfl rfl (by decide) rfl ?_
      refine j_goto (tgt := 6) B dJ7_fill_d0a16_19 (by decide) ?_
      refine j_locals [1, 2, 0, 3] rfl ?_
      exact ih (x1) ((x3 + 1)) (x4) ((j_up vl x0 x3.toNatClampNeg x1))  h
def fJ7_fill_d0a16 (x0 : Nat) (n0 : Nat) (x1 : Int64) (vl0 : VL) : Option (VL) := fJ7_fill_d0a16_6 x0 n0 FU x1 0 (Int32.ofNat n0) vl0
theorem tJ7_fill_d0a16 {G : GT} {sv : SV} {vi0 : VI} {vl0 : VL} {x0 : Nat} {n0 : Nat} {x1 : Int64} {vl' : VL} (h0 : Ar sv x0 20 n0) (h : fJ7_fill_d0a16 x0 n0 x1 vl0 = some (vl')) : Call G mJ7_fill_d0a16 0 0 0 [.ref (G.1 + x0), .long x1] sv vi0 vl0 (QV sv vi0 vl') := by
  refine j_mk (by decide +kernel) (Nat.le_of_ble_eq_true rfl) (fun Γ B E => ?_)
  show J G Γ 0 0 0 [(0, .ref (G.1 + x0)), (1, .long x1)] [] sv vi0 vl0
  unfold fJ7_fill_d0a16 at h
  refine j_iconst B dJ7_fill_d0a16_0 (v := 0) (by decide) ?_
  refine j_istore_n (L' := [(3, .int 0), (0, .ref (G.1 + x0)), (1, .long x1)]) B dJ7_fill_d0a16_1 rfl (by decide) rfl ?_
  refine j_aload_n B dJ7_fill_d0a16_2 rfl 1 rfl ?_
  refine j_alen (v := (Int32.ofNat n0)) B (h0) (Or.inr (Or.inr rfl)) rfl dJ7_fill_d0a16_3 ?_
  refine j_istore (L' := [(4, .int (Int32.ofNat n0)), (3, .int 0), (0, .ref (G.1 + x0)), (1, .long x1)]) B dJ7_fill_d0a16_4 (by decide) rfl ?_
  refine j_locals [2, 3, 1, 0] rfl ?_
  exact tJ7_fill_d0a16_6 B E h0 FU (x1) (0) ((Int32.ofNat n0)) (vl0)  h
def fJ7_fill_53178_5 (x0 : Nat) (n0 : Nat) : Nat → Int32 → Int32 → Int32 → VI → Option (VI)
  | 0, _, _, _, _ => none
  | F + 1, x1, x2, x3, vi => if x3 ≤ x2 then some (vi) else if inb x2 n0 = true then fJ7_fill_53178_5 x0 n0 F x1 (x2 + 1) x3 (j_up vi x0 x2.toNatClampNeg x1) else none
theorem tJ7_fill_53178_5 {G : GT} {sv : SV} {vl0 : VL} {Γ : CT} {x0 : Nat} {n0 : Nat} {vi' : VI} (B : Base G Γ mJ7_fill_53178 0 0 0) (E : Ends G Γ 0 0 (QV sv vi' vl0)) (h0 : Ar sv x0 11 n0) : ∀ (F : Nat) (x1 : Int32) (x2 : Int32) (x3 : Int32) (vi : VI), fJ7_fill_53178_5 x0 n0 F x1 x2 x3 vi = some (vi') → J G Γ 0 0 5 [(0, .ref (G.1 + x0)), (1, .int x1), (2, .int x2), (3, .int x3)] [] sv vi vl0 := by
  intro F
  induction F with
  | zero =>
    intro x1 x2 x3 vi  h
    cases (show (none : Option (VI)) = some (vi') from h)
  | succ F ih =>
    intro x1 x2 x3 vi  h
    rw [fJ7_fill_53178_5] at h
    refine j_iload_n B dJ7_fill_53178_5 rfl 2 rfl ?_
    refine j_iload_n B dJ7_fill_53178_6 rfl 3 rfl ?_
    refine j_icmp_ge (tgt := 20) B dJ7_fill_53178_7 (by decide) (fun c => ?_) (fun c => ?_)
    · replace h := h_pos c h
      have e1 := Option.some.inj h
      subst e1
      exact j_vret B E rfl dJ7_fill_53178_20 (Nat.le_refl _) (Nat.le_refl _) ⟨rfl, rfl, rfl, rfl⟩
    · replace h := h_neg c h
      refine j_aload_n B dJ7_fill_53178_10 rfl 0 rfl ?_
      refine j_iload_n B dJ7_fill_53178_11 rfl 2 rfl ?_
      refine j_iload_n B dJ7_fill_53178_12 rfl 1 rfl ?_
      obtain ⟨b1, h⟩ := h_inb h
      refine j_iast B (h0) b1 dJ7_fill_53178_13 ?_
      refine j_iinc (v := (x2 + 1)) (L' := [(2, .int (x2 + 1)), (0, .ref (G.1 + x0)), (1, .int x1), (3, .int x3)]) B dJ7_fill_53178_14 2 rfl rfl (by decide) rfl ?_
      refine j_goto (tgt := 5) B dJ7_fill_53178_17 (by decide) ?_
      refine j_locals [1, 2, 0, 3] rfl ?_
      exact ih (x1) ((x2 + 1)) (x3) ((j_up vi x0 x2.toNatClampNeg x1))  h
def fJ7_fill_53178 (x0 : Nat) (n0 : Nat) (x1 : Int32) (vi0 : VI) : Option (VI) := fJ7_fill_53178_5 x0 n0 FU x1 0 (Int32.ofNat n0) vi0
theorem tJ7_fill_53178 {G : GT} {sv : SV} {vi0 : VI} {vl0 : VL} {x0 : Nat} {n0 : Nat} {x1 : Int32} {vi' : VI} (h0 : Ar sv x0 11 n0) (h : fJ7_fill_53178 x0 n0 x1 vi0 = some (vi')) : Call G mJ7_fill_53178 0 0 0 [.ref (G.1 + x0), .int x1] sv vi0 vl0 (QV sv vi' vl0) := by
  refine j_mk (by decide +kernel) (Nat.le_of_ble_eq_true rfl) (fun Γ B E => ?_)
  show J G Γ 0 0 0 [(0, .ref (G.1 + x0)), (1, .int x1)] [] sv vi0 vl0
  unfold fJ7_fill_53178 at h
  refine j_iconst B dJ7_fill_53178_0 (v := 0) (by decide) ?_
  refine j_istore_n (L' := [(2, .int 0), (0, .ref (G.1 + x0)), (1, .int x1)]) B dJ7_fill_53178_1 rfl (by decide) rfl ?_
  refine j_aload_n B dJ7_fill_53178_2 rfl 1 rfl ?_
  refine j_alen (v := (Int32.ofNat n0)) B (h0) (Or.inl rfl) rfl dJ7_fill_53178_3 ?_
  refine j_istore_n (L' := [(3, .int (Int32.ofNat n0)), (2, .int 0), (0, .ref (G.1 + x0)), (1, .int x1)]) B dJ7_fill_53178_4 rfl (by decide) rfl ?_
  refine j_locals [2, 3, 1, 0] rfl ?_
  exact tJ7_fill_53178_5 B E h0 FU (x1) (0) ((Int32.ofNat n0)) (vi0)  h
def fX3_tells (o : Nat) (x1 : Int32) (x2 : Int32) (vi0 : VI) : Option (Int32) := if x1 < 0 then some ((-2)) else if x1 < (vi0 o 2) then if x2 = 0 then if inb x1 12 = true then some ((vi0 (o + 1) x1.toNatClampNeg)) else none else if inb x1 12 = true then some ((vi0 (o + 2) x1.toNatClampNeg)) else none else some ((-2))
theorem tX3_tells {G : GT} {sv : SV} {vi0 : VI} {vl0 : VL} {o : Nat} {x1 : Int32} {x2 : Int32} {r : Int32} (ho : isDust sv o) (h : fX3_tells o x1 x2 vi0 = some (r)) : Call G mX3_tells 0 0 0 [.ref (G.1 + o), .int x1, .int x2] sv vi0 vl0 (QI r sv vi0 vl0) := by
  refine j_mk (by decide +kernel) (Nat.le_of_ble_eq_true rfl) (fun Γ B E => ?_)
  show J G Γ 0 0 0 [(0, .ref (G.1 + o)), (1, .int x1), (2, .int x2)] [] sv vi0 vl0
  unfold fX3_tells at h
  refine j_iload_n B dX3_tells_0 rfl 1 rfl ?_
  refine j_if_lt (tgt := 12) B dX3_tells_1 (by decide) (fun c => ?_) (fun c => ?_)
  · replace h := h_pos c h
    refine j_bipush B dX3_tells_12 (v := (-2)) (by decide) ?_
    have e1 := Option.some.inj h
    subst e1
    exact j_iret B E rfl dX3_tells_14 (Nat.le_refl _) (Nat.le_refl _) ⟨rfl, rfl, rfl, rfl⟩
  · replace h := h_neg c h
    refine j_iload_n B dX3_tells_4 rfl 1 rfl ?_
    refine j_aload_n B dX3_tells_5 rfl 0 rfl ?_
    refine gf_RX3_24 B rfl ((ho).1) dX3_tells_6 ?_
    refine j_icmp_lt (tgt := 15) B dX3_tells_9 (by decide) (fun c => ?_) (fun c => ?_)
    · replace h := h_pos c h
      refine j_iload_n B dX3_tells_15 rfl 2 rfl ?_
      refine j_if_ne (tgt := 28) B dX3_tells_16 (by decide) (fun c => ?_) (fun c => ?_)
      · replace h := h_neg c h
        refine j_aload_n B dX3_tells_28 rfl 0 rfl ?_
        refine gf_RX3_15 B rfl ((ho).1) (ho).2.2.1 dX3_tells_29 ?_
        refine j_iload_n B dX3_tells_32 rfl 1 rfl ?_
        obtain ⟨b1, h⟩ := h_inb h
        refine j_iald B ((ho).2.2.2.2) b1 dX3_tells_33 ?_
        have e1 := Option.some.inj h
        subst e1
        exact j_iret B E rfl dX3_tells_34 (Nat.le_refl _) (Nat.le_refl _) ⟨rfl, rfl, rfl, rfl⟩
      · replace h := h_pos c h
        refine j_aload_n B dX3_tells_19 rfl 0 rfl ?_
        refine gf_RX3_9 B rfl ((ho).1) (ho).2.1 dX3_tells_20 ?_
        refine j_iload_n B dX3_tells_23 rfl 1 rfl ?_
        obtain ⟨b2, h⟩ := h_inb h
        refine j_iald B ((ho).2.2.2.1) b2 dX3_tells_24 ?_
        refine j_goto (tgt := 34) B dX3_tells_25 (by decide) ?_
        have e1 := Option.some.inj h
        subst e1
        exact j_iret B E rfl dX3_tells_34 (Nat.le_refl _) (Nat.le_refl _) ⟨rfl, rfl, rfl, rfl⟩
    · replace h := h_neg c h
      refine j_bipush B dX3_tells_12 (v := (-2)) (by decide) ?_
      have e1 := Option.some.inj h
      subst e1
      exact j_iret B E rfl dX3_tells_14 (Nat.le_refl _) (Nat.le_refl _) ⟨rfl, rfl, rfl, rfl⟩
def fX3_become (o : Nat) (x1 : Nat) (vi0 : VI) : Option (VI) := if cpok 0 0 12 12 12 = true then if cpok 0 0 12 12 12 = true then some ((j_up (j_row (j_row vi0 (o + 1) (va_cpy (vi0 (x1 + 1)) (vi0 (o + 1)) (0 : Int32).toNatClampNeg (0 : Int32).toNatClampNeg (12 : Int32).toNatClampNeg)) (o + 2) (va_cpy ((j_row vi0 (o + 1) (va_cpy (vi0 (x1 + 1)) (vi0 (o + 1)) (0 : Int32).toNatClampNeg (0 : Int32).toNatClampNeg (12 : Int32).toNatClampNeg)) (x1 + 2)) ((j_row vi0 (o + 1) (va_cpy (vi0 (x1 + 1)) (vi0 (o + 1)) (0 : Int32).toNatClampNeg (0 : Int32).toNatClampNeg (12 : Int32).toNatClampNeg)) (o + 2)) (0 : Int32).toNatClampNeg (0 : Int32).toNatClampNeg (12 : Int32).toNatClampNeg)) o 2 ((j_row (j_row vi0 (o + 1) (va_cpy (vi0 (x1 + 1)) (vi0 (o + 1)) (0 : Int32).toNatClampNeg (0 : Int32).toNatClampNeg (12 : Int32).toNatClampNeg)) (o + 2) (va_cpy ((j_row vi0 (o + 1) (va_cpy (vi0 (x1 + 1)) (vi0 (o + 1)) (0 : Int32).toNatClampNeg (0 : Int32).toNatClampNeg (12 : Int32).toNatClampNeg)) (x1 + 2)) ((j_row vi0 (o + 1) (va_cpy (vi0 (x1 + 1)) (vi0 (o + 1)) (0 : Int32).toNatClampNeg (0 : Int32).toNatClampNeg (12 : Int32).toNatClampNeg)) (o + 2)) (0 : Int32).toNatClampNeg (0 : Int32).toNatClampNeg (12 : Int32).toNatClampNeg)) x1 2))) else none else none
theorem tX3_become {G : GT} {sv : SV} {vi0 : VI} {vl0 : VL} {o : Nat} {x1 : Nat} {vi' : VI} (ho : isDust sv o) (h1 : isDust sv x1) (h : fX3_become o x1 vi0 = some (vi')) : Call G mX3_become 2 0 0 [.ref (G.1 + o), .ref (G.1 + x1)] sv vi0 vl0 (QV sv vi' vl0) := by
  refine j_mk (by decide +kernel) (Nat.le_of_ble_eq_true rfl) (fun Γ B E => ?_)
  show J G Γ 0 0 0 [(0, .ref (G.1 + o)), (1, .ref (G.1 + x1))] [] sv vi0 vl0
  unfold fX3_become at h
  refine j_aload_n B dX3_become_0 rfl 1 rfl ?_
  refine gf_RX3_9 B rfl ((h1).1) (h1).2.1 dX3_become_1 ?_
  refine j_iconst B dX3_become_4 (v := 0) (by decide) ?_
  refine j_aload_n B dX3_become_5 rfl 0 rfl ?_
  refine gf_RX3_9 B rfl ((ho).1) (ho).2.1 dX3_become_6 ?_
  refine j_iconst B dX3_become_9 (v := 0) (by decide) ?_
  refine j_bipush B dX3_become_10 (v := 12) (by decide) ?_
  obtain ⟨b1, h⟩ := h_cp h
  refine j_copyi B ((h1).2.2.2.1) ((ho).2.2.2.1) wl_RX3_18 wn_ac wst_ac wini_sys b1.1 b1.2.1 b1.2.2.1 b1.2.2.2.1 b1.2.2.2.2 (by decide) (Nat.le_of_ble_eq_true rfl) dX3_become_12 ?_
  refine j_aload_n B dX3_become_15 rfl 1 rfl ?_
  refine gf_RX3_15 B rfl ((h1).1) (h1).2.2.1 dX3_become_16 ?_
  refine j_iconst B dX3_become_19 (v := 0) (by decide) ?_
  refine j_aload_n B dX3_become_20 rfl 0 rfl ?_
  refine gf_RX3_15 B rfl ((ho).1) (ho).2.2.1 dX3_become_21 ?_
  refine j_iconst B dX3_become_24 (v := 0) (by decide) ?_
  refine j_bipush B dX3_become_25 (v := 12) (by decide) ?_
  obtain ⟨b2, h⟩ := h_cp h
  refine j_copyi B ((h1).2.2.2.2) ((ho).2.2.2.2) wl_RX3_18 wn_ac wst_ac wini_sys b2.1 b2.2.1 b2.2.2.1 b2.2.2.2.1 b2.2.2.2.2 (by decide) (Nat.le_of_ble_eq_true rfl) dX3_become_27 ?_
  refine j_aload_n B dX3_become_30 rfl 0 rfl ?_
  refine j_aload_n B dX3_become_31 rfl 1 rfl ?_
  refine gf_RX3_24 B rfl ((h1).1) dX3_become_32 ?_
  refine pf_RX3_24 B rfl ((ho).1) dX3_become_35 ?_
  have e1 := Option.some.inj h
  subst e1
  exact j_vret B E rfl dX3_become_38 (Nat.le_refl _) (Nat.le_refl _) ⟨rfl, rfl, rfl, rfl⟩
def fX3_uppermost (o : Nat) (vi0 : VI) : Option (Int32) := (fX3_tells o ((vi0 o 2) - 1) 0 vi0).bind fun r1 => some (r1)
theorem tX3_uppermost {G : GT} {sv : SV} {vi0 : VI} {vl0 : VL} {o : Nat} {r : Int32} (ho : isDust sv o) (h : fX3_uppermost o vi0 = some (r)) : Call G mX3_uppermost 1 0 0 [.ref (G.1 + o)] sv vi0 vl0 (QI r sv vi0 vl0) := by
  refine j_mk (by decide +kernel) (Nat.le_of_ble_eq_true rfl) (fun Γ B E => ?_)
  show J G Γ 0 0 0 [(0, .ref (G.1 + o))] [] sv vi0 vl0
  unfold fX3_uppermost at h
  refine j_aload_n B dX3_uppermost_0 rfl 0 rfl ?_
  refine j_aload_n B dX3_uppermost_1 rfl 0 rfl ?_
  refine gf_RX3_24 B rfl ((ho).1) dX3_uppermost_2 ?_
  refine j_iconst B dX3_uppermost_5 (v := 1) (by decide) ?_
  refine j_isub B dX3_uppermost_6 ?_
  refine j_iconst B dX3_uppermost_7 (v := 0) (by decide) ?_
  obtain ⟨r1, hr1, h⟩ := h_bind h
  refine j_cVI (rest := []) B (tX3_tells (ho) hr1) cls3 ((ho).1) jt_RX3_28 wi_X3_tells ws_X3_tells rfl (by decide) (Nat.le_refl _) (Nat.le_refl _) rfl (Nat.le_of_ble_eq_true rfl) dX3_uppermost_8 ?_
  have e1 := Option.some.inj h
  subst e1
  exact j_iret B E rfl dX3_uppermost_11 (Nat.le_refl _) (Nat.le_refl _) ⟨rfl, rfl, rfl, rfl⟩
def fX3_press_26 (o : Nat) : Nat → Int32 → VI → Option (VI)
  | 0, _, _ => none
  | F + 1, x1, vi => if 11 ≤ x1 then some ((j_up vi o 2 11)) else if inb (x1 + 1) 12 = true then if inb x1 12 = true then if inb (x1 + 1) 12 = true then if inb x1 12 = true then fX3_press_26 o F (x1 + 1) (j_up (j_up vi (o + 1) x1.toNatClampNeg (vi (o + 1) (x1 + 1).toNatClampNeg)) (o + 2) x1.toNatClampNeg ((j_up vi (o + 1) x1.toNatClampNeg (vi (o + 1) (x1 + 1).toNatClampNeg)) (o + 2) (x1 + 1).toNatClampNeg)) else none else none else none else none
theorem tX3_press_26 {G : GT} {sv : SV} {vl0 : VL} {Γ : CT} {o : Nat} {vi' : VI} (B : Base G Γ mX3_press 2 0 0) (E : Ends G Γ 0 0 (QV sv vi' vl0)) (ho : isDust sv o) : ∀ (F : Nat) (x1 : Int32) (vi : VI), fX3_press_26 o F x1 vi = some (vi') → J G Γ 0 0 26 [(0, .ref (G.1 + o)), (1, .int x1)] [] sv vi vl0 := by
  intro F
  induction F with
  | zero =>
    intro x1 vi  h
    cases (show (none : Option (VI)) = some (vi') from h)
  | succ F ih =>
    intro x1 vi  h
    rw [fX3_press_26] at h
    refine j_iload_n B dX3_press_26 rfl 1 rfl ?_
    refine j_bipush B dX3_press_27 (v := 11) (by decide) ?_
    refine j_icmp_ge (tgt := 66) B dX3_press_29 (by decide) (fun c => ?_) (fun c => ?_)
    · replace h := h_pos c h
      refine j_aload_n B dX3_press_66 rfl 0 rfl ?_
      refine j_bipush B dX3_press_67 (v := 11) (by decide) ?_
      refine pf_RX3_24 B rfl ((ho).1) dX3_press_69 ?_
      have e1 := Option.some.inj h
      subst e1
      exact j_vret B E rfl dX3_press_72 (Nat.le_refl _) (Nat.le_refl _) ⟨rfl, rfl, rfl, rfl⟩
    · replace h := h_neg c h
      refine j_aload_n B dX3_press_32 rfl 0 rfl ?_
      refine gf_RX3_9 B rfl ((ho).1) (ho).2.1 dX3_press_33 ?_
      refine j_iload_n B dX3_press_36 rfl 1 rfl ?_
      refine j_aload_n B dX3_press_37 rfl 0 rfl ?_
      refine gf_RX3_9 B rfl ((ho).1) (ho).2.1 dX3_press_38 ?_
      refine j_iload_n B dX3_press_41 rfl 1 rfl ?_
      refine j_iconst B dX3_press_42 (v := 1) (by decide) ?_
      refine j_iadd B dX3_press_43 ?_
      obtain ⟨b1, h⟩ := h_inb h
      refine j_iald B ((ho).2.2.2.1) b1 dX3_press_44 ?_
      obtain ⟨b2, h⟩ := h_inb h
      refine j_iast B ((ho).2.2.2.1) b2 dX3_press_45 ?_
      refine j_aload_n B dX3_press_46 rfl 0 rfl ?_
      refine gf_RX3_15 B rfl ((ho).1) (ho).2.2.1 dX3_press_47 ?_
      refine j_iload_n B dX3_press_50 rfl 1 rfl ?_
      refine j_aload_n B dX3_press_51 rfl 0 rfl ?_
      refine gf_RX3_15 B rfl ((ho).1) (ho).2.2.1 dX3_press_52 ?_
      refine j_iload_n B dX3_press_55 rfl 1 rfl ?_
      refine j_iconst B dX3_press_56 (v := 1) (by decide) ?_
      refine j_iadd B dX3_press_57 ?_
      obtain ⟨b3, h⟩ := h_inb h
      refine j_iald B ((ho).2.2.2.2) b3 dX3_press_58 ?_
      obtain ⟨b4, h⟩ := h_inb h
      refine j_iast B ((ho).2.2.2.2) b4 dX3_press_59 ?_
      refine j_iinc (v := (x1 + 1)) (L' := [(1, .int (x1 + 1)), (0, .ref (G.1 + o))]) B dX3_press_60 1 rfl rfl (by decide) rfl ?_
      refine j_goto (tgt := 26) B dX3_press_63 (by decide) ?_
      refine j_locals [1, 0] rfl ?_
      exact ih ((x1 + 1)) ((j_up (j_up vi (o + 1) x1.toNatClampNeg (vi (o + 1) (x1 + 1).toNatClampNeg)) (o + 2) x1.toNatClampNeg ((j_up vi (o + 1) x1.toNatClampNeg (vi (o + 1) (x1 + 1).toNatClampNeg)) (o + 2) (x1 + 1).toNatClampNeg)))  h
def fX3_press (o : Nat) (vi0 : VI) : Option (VI) := fX3_press_26 o FU 1 (j_up vi0 (o + 2) (0 : Int32).toNatClampNeg ((if 99 < ((vi0 (o + 2) (0 : Int32).toNatClampNeg) + (vi0 (o + 2) (1 : Int32).toNatClampNeg)) then 99 else ((vi0 (o + 2) (0 : Int32).toNatClampNeg) + (vi0 (o + 2) (1 : Int32).toNatClampNeg))) : Int32))
theorem tX3_press {G : GT} {sv : SV} {vi0 : VI} {vl0 : VL} {o : Nat} {vi' : VI} (ho : isDust sv o) (h : fX3_press o vi0 = some (vi')) : Call G mX3_press 2 0 0 [.ref (G.1 + o)] sv vi0 vl0 (QV sv vi' vl0) := by
  refine j_mk (by decide +kernel) (Nat.le_of_ble_eq_true rfl) (fun Γ B E => ?_)
  show J G Γ 0 0 0 [(0, .ref (G.1 + o))] [] sv vi0 vl0
  unfold fX3_press at h
  refine j_aload_n B dX3_press_0 rfl 0 rfl ?_
  refine gf_RX3_15 B rfl ((ho).1) (ho).2.2.1 dX3_press_1 ?_
  refine j_iconst B dX3_press_4 (v := 0) (by decide) ?_
  refine j_aload_n B dX3_press_5 rfl 0 rfl ?_
  refine gf_RX3_15 B rfl ((ho).1) (ho).2.2.1 dX3_press_6 ?_
  refine j_iconst B dX3_press_9 (v := 0) (by decide) ?_
  refine j_iald B ((ho).2.2.2.2) (vp_in_iff.mpr ⟨by decide, by decide⟩) dX3_press_10 ?_
  refine j_aload_n B dX3_press_11 rfl 0 rfl ?_
  refine gf_RX3_15 B rfl ((ho).1) (ho).2.2.1 dX3_press_12 ?_
  refine j_iconst B dX3_press_15 (v := 1) (by decide) ?_
  refine j_iald B ((ho).2.2.2.2) (vp_in_iff.mpr ⟨by decide, by decide⟩) dX3_press_16 ?_
  refine j_iadd B dX3_press_17 ?_
  refine j_bipush B dX3_press_18 (v := 99) (by decide) ?_
  refine j_mmin B (jt_RX3_36).2.2.1 wst_J9_min_7cf53 wini_RJ9 wcm_min (by decide) (Nat.le_refl _) (Nat.le_refl _) (Nat.le_of_ble_eq_true rfl) dX3_press_20 ?_
  refine j_iast B ((ho).2.2.2.2) (vp_in_iff.mpr ⟨by decide, by decide⟩) dX3_press_23 ?_
  refine j_iconst B dX3_press_24 (v := 1) (by decide) ?_
  refine j_istore_n (L' := [(1, .int 1), (0, .ref (G.1 + o))]) B dX3_press_25 rfl (by decide) rfl ?_
  refine j_locals [1, 0] rfl ?_
  exact tX3_press_26 B E ho FU (1) ((j_up vi0 (o + 2) (0 : Int32).toNatClampNeg ((if 99 < ((vi0 (o + 2) (0 : Int32).toNatClampNeg) + (vi0 (o + 2) (1 : Int32).toNatClampNeg)) then 99 else ((vi0 (o + 2) (0 : Int32).toNatClampNeg) + (vi0 (o + 2) (1 : Int32).toNatClampNeg))) : Int32)))  h
def fX3_settle_72 (o : Nat) (x1 : Int32) (x2 : Int32) (vi : VI) : Option (Int32 × VI) := if inb (vi o 2) 12 = true then if inb ((j_up vi (o + 1) (vi o 2).toNatClampNeg x1) o 2) 12 = true then some (x2, (j_up (j_up (j_up vi (o + 1) (vi o 2).toNatClampNeg x1) (o + 2) ((j_up vi (o + 1) (vi o 2).toNatClampNeg x1) o 2).toNatClampNeg x2) o 2 (((j_up (j_up vi (o + 1) (vi o 2).toNatClampNeg x1) (o + 2) ((j_up vi (o + 1) (vi o 2).toNatClampNeg x1) o 2).toNatClampNeg x2) o 2) + 1))) else none else none
theorem tX3_settle_72 {G : GT} {sv : SV} {vl0 : VL} {Γ : CT} {o : Nat} {r : Int32} {vi' : VI} (B : Base G Γ mX3_settle 3 0 0) (E : Ends G Γ 0 0 (QI r sv vi' vl0)) (ho : isDust sv o) : ∀ (x1 : Int32) (x2 : Int32) (vi : VI), fX3_settle_72 o x1 x2 vi = some (r, vi') → J G Γ 0 0 72 [(0, .ref (G.1 + o)), (1, .int x1), (2, .int x2)] [] sv vi vl0 := by
  intro x1 x2 vi  h
  unfold fX3_settle_72 at h
  refine j_aload_n B dX3_settle_72 rfl 0 rfl ?_
  refine gf_RX3_9 B rfl ((ho).1) (ho).2.1 dX3_settle_73 ?_
  refine j_aload_n B dX3_settle_76 rfl 0 rfl ?_
  refine gf_RX3_24 B rfl ((ho).1) dX3_settle_77 ?_
  refine j_iload_n B dX3_settle_80 rfl 1 rfl ?_
  obtain ⟨b2, h⟩ := h_inb h
  refine j_iast B ((ho).2.2.2.1) b2 dX3_settle_81 ?_
  refine j_aload_n B dX3_settle_82 rfl 0 rfl ?_
  refine gf_RX3_15 B rfl ((ho).1) (ho).2.2.1 dX3_settle_83 ?_
  refine j_aload_n B dX3_settle_86 rfl 0 rfl ?_
  refine gf_RX3_24 B rfl ((ho).1) dX3_settle_87 ?_
  refine j_iload_n B dX3_settle_90 rfl 2 rfl ?_
  obtain ⟨b3, h⟩ := h_inb h
  refine j_iast B ((ho).2.2.2.2) b3 dX3_settle_91 ?_
  refine j_aload_n B dX3_settle_92 rfl 0 rfl ?_
  refine j_dup B dX3_settle_93 rfl ?_
  refine gf_RX3_24 B rfl ((ho).1) dX3_settle_94 ?_
  refine j_iconst B dX3_settle_97 (v := 1) (by decide) ?_
  refine j_iadd B dX3_settle_98 ?_
  refine pf_RX3_24 B rfl ((ho).1) dX3_settle_99 ?_
  refine j_iload_n B dX3_settle_102 rfl 2 rfl ?_
  obtain ⟨e1, e2⟩ := Prod.mk.inj (Option.some.inj h)
  subst e1
  subst e2
  exact j_iret B E rfl dX3_settle_103 (Nat.le_refl _) (Nat.le_refl _) ⟨rfl, rfl, rfl, rfl⟩
def fX3_settle (o : Nat) (x1 : Int32) (x2 : Int32) (vi0 : VI) : Option (Int32 × VI) := if 0 < x2 then (fX3_uppermost o vi0).bind fun r1 => if r1 = x1 then if inb ((vi0 o 2) - 1) 12 = true then if inb ((vi0 o 2) - 1) 12 = true then if inb (((j_up vi0 (o + 2) ((vi0 o 2) - 1).toNatClampNeg ((if 99 < ((vi0 (o + 2) ((vi0 o 2) - 1).toNatClampNeg) + x2) then 99 else ((vi0 (o + 2) ((vi0 o 2) - 1).toNatClampNeg) + x2)) : Int32)) o 2) - 1) 12 = true then some ((((j_up vi0 (o + 2) ((vi0 o 2) - 1).toNatClampNeg ((if 99 < ((vi0 (o + 2) ((vi0 o 2) - 1).toNatClampNeg) + x2) then 99 else ((vi0 (o + 2) ((vi0 o 2) - 1).toNatClampNeg) + x2)) : Int32)) (o + 2) (((j_up vi0 (o + 2) ((vi0 o 2) - 1).toNatClampNeg ((if 99 < ((vi0 (o + 2) ((vi0 o 2) - 1).toNatClampNeg) + x2) then 99 else ((vi0 (o + 2) ((vi0 o 2) - 1).toNatClampNeg) + x2)) : Int32)) o 2) - 1).toNatClampNeg) - (vi0 (o + 2) ((vi0 o 2) - 1).toNatClampNeg)), (j_up vi0 (o + 2) ((vi0 o 2) - 1).toNatClampNeg ((if 99 < ((vi0 (o + 2) ((vi0 o 2) - 1).toNatClampNeg) + x2) then 99 else ((vi0 (o + 2) ((vi0 o 2) - 1).toNatClampNeg) + x2)) : Int32))) else none else none else none else if (vi0 o 2) < 12 then fX3_settle_72 o x1 x2 vi0 else (fX3_press o vi0).bind fun r4 => fX3_settle_72 o x1 x2 r4 else some (0, vi0)
theorem tX3_settle {G : GT} {sv : SV} {vi0 : VI} {vl0 : VL} {o : Nat} {x1 : Int32} {x2 : Int32} {r : Int32} {vi' : VI} (ho : isDust sv o) (h : fX3_settle o x1 x2 vi0 = some (r, vi')) : Call G mX3_settle 3 0 0 [.ref (G.1 + o), .int x1, .int x2] sv vi0 vl0 (QI r sv vi' vl0) := by
  refine j_mk (by decide +kernel) (Nat.le_of_ble_eq_true rfl) (fun Γ B E => ?_)
  show J G Γ 0 0 0 [(0, .ref (G.1 + o)), (1, .int x1), (2, .int x2)] [] sv vi0 vl0
  unfold fX3_settle at h
  refine j_iload_n B dX3_settle_0 rfl 2 rfl ?_
  refine j_if_gt (tgt := 6) B dX3_settle_1 (by decide) (fun c => ?_) (fun c => ?_)
  · replace h := h_pos c h
    refine j_aload_n B dX3_settle_6 rfl 0 rfl ?_
    obtain ⟨r1, hr1, h⟩ := h_bind h
    refine j_cVI (rest := []) B (tX3_uppermost (ho) hr1) cls3 ((ho).1) jt_RX3_32 wi_X3_uppermost ws_X3_uppermost rfl (by decide) (Nat.le_refl _) (Nat.le_refl _) rfl (Nat.le_of_ble_eq_true rfl) dX3_settle_7 ?_
    refine j_iload_n B dX3_settle_10 rfl 1 rfl ?_
    refine j_icmp_ne (tgt := 59) B dX3_settle_11 (by decide) (fun c => ?_) (fun c => ?_)
    · replace h := h_neg c h
      refine j_aload_n B dX3_settle_59 rfl 0 rfl ?_
      refine gf_RX3_24 B rfl ((ho).1) dX3_settle_60 ?_
      refine j_bipush B dX3_settle_63 (v := 12) (by decide) ?_
      refine j_icmp_lt (tgt := 72) B dX3_settle_65 (by decide) (fun c => ?_) (fun c => ?_)
      · replace h := h_pos c h
        refine j_locals [0, 1, 2] rfl ?_
        exact tX3_settle_72 B E ho (x1) (x2) (vi0)  h
      · replace h := h_neg c h
        refine j_aload_n B dX3_settle_68 rfl 0 rfl ?_
        obtain ⟨r4, hr4, h⟩ := h_bind h
        refine j_cVV (rest := []) B (tX3_press (ho) hr4) cls3 ((ho).1) jt_RX3_41 wi_X3_press ws_X3_press rfl (by decide) (Nat.le_refl _) (Nat.le_refl _) rfl (Nat.le_of_ble_eq_true rfl) dX3_settle_69 ?_
        refine j_locals [0, 1, 2] rfl ?_
        exact tX3_settle_72 B E ho (x1) (x2) (r4)  h
    · replace h := h_pos c h
      refine j_aload_n B dX3_settle_14 rfl 0 rfl ?_
      refine gf_RX3_15 B rfl ((ho).1) (ho).2.2.1 dX3_settle_15 ?_
      refine j_aload_n B dX3_settle_18 rfl 0 rfl ?_
      refine gf_RX3_24 B rfl ((ho).1) dX3_settle_19 ?_
      refine j_iconst B dX3_settle_22 (v := 1) (by decide) ?_
      refine j_isub B dX3_settle_23 ?_
      obtain ⟨b5, h⟩ := h_inb h
      refine j_iald B ((ho).2.2.2.2) b5 dX3_settle_24 ?_
      refine j_istore_n (L' := [(3, .int (vi0 (o + 2) ((vi0 o 2) - 1).toNatClampNeg)), (0, .ref (G.1 + o)), (1, .int x1), (2, .int x2)]) B dX3_settle_25 rfl (by decide) rfl ?_
      refine j_aload_n B dX3_settle_26 rfl 1 rfl ?_
      refine gf_RX3_15 B rfl ((ho).1) (ho).2.2.1 dX3_settle_27 ?_
      refine j_aload_n B dX3_settle_30 rfl 1 rfl ?_
      refine gf_RX3_24 B rfl ((ho).1) dX3_settle_31 ?_
      refine j_iconst B dX3_settle_34 (v := 1) (by decide) ?_
      refine j_isub B dX3_settle_35 ?_
      refine j_iload_n B dX3_settle_36 rfl 0 rfl ?_
      refine j_iload_n B dX3_settle_37 rfl 3 rfl ?_
      refine j_iadd B dX3_settle_38 ?_
      refine j_bipush B dX3_settle_39 (v := 99) (by decide) ?_
      refine j_mmin B (jt_RX3_36).2.2.1 wst_J9_min_7cf53 wini_RJ9 wcm_min (by decide) (Nat.le_refl _) (Nat.le_refl _) (Nat.le_of_ble_eq_true rfl) dX3_settle_41 ?_
      obtain ⟨b6, h⟩ := h_inb h
      refine j_iast B ((ho).2.2.2.2) b6 dX3_settle_44 ?_
      refine j_aload_n B dX3_settle_45 rfl 1 rfl ?_
      refine gf_RX3_15 B rfl ((ho).1) (ho).2.2.1 dX3_settle_46 ?_
      refine j_aload_n B dX3_settle_49 rfl 1 rfl ?_
      refine gf_RX3_24 B rfl ((ho).1) dX3_settle_50 ?_
      refine j_iconst B dX3_settle_53 (v := 1) (by decide) ?_
      refine j_isub B dX3_settle_54 ?_
      obtain ⟨b7, h⟩ := h_inb h
      refine j_iald B ((ho).2.2.2.2) b7 dX3_settle_55 ?_
      refine j_iload_n B dX3_settle_56 rfl 0 rfl ?_
      refine j_isub B dX3_settle_57 ?_
      obtain ⟨e1, e2⟩ := Prod.mk.inj (Option.some.inj h)
      subst e1
      subst e2
      exact j_iret B E rfl dX3_settle_58 (Nat.le_refl _) (Nat.le_refl _) ⟨rfl, rfl, rfl, rfl⟩
  · replace h := h_neg c h
    refine j_iconst B dX3_settle_4 (v := 0) (by decide) ?_
    obtain ⟨e1, e2⟩ := Prod.mk.inj (Option.some.inj h)
    subst e1
    subst e2
    exact j_iret B E rfl dX3_settle_5 (Nat.le_refl _) (Nat.le_refl _) ⟨rfl, rfl, rfl, rfl⟩
def fX3_takeFromAbove_59 (o : Nat) (k9 : Int32 → Int32 → Int32 → VI → Option (Int32 × VI)) (x1 : Int32) (x2 : Int32) (x3 : Int32) (vi : VI) : Option (Int32 × VI) := k9 x1 x2 (x3 + (-1)) vi
theorem tX3_takeFromAbove_59 {G : GT} {sv : SV} {vl0 : VL} {Γ : CT} {o : Nat} {r : Int32} {vi' : VI} {k9 : Int32 → Int32 → Int32 → VI → Option (Int32 × VI)} (B : Base G Γ mX3_takeFromAbove 2 0 0) (E : Ends G Γ 0 0 (QI r sv vi' vl0)) (ho : isDust sv o) (hk9 : ∀ (x1 : Int32) (x2 : Int32) (x3 : Int32) (vi : VI), k9 x1 x2 x3 vi = some (r, vi') → J G Γ 0 0 9 [(0, .ref (G.1 + o)), (1, .int x1), (2, .int x2), (3, .int x3)] [] sv vi vl0) : ∀ (x1 : Int32) (x2 : Int32) (x3 : Int32) (vi : VI), fX3_takeFromAbove_59 o k9 x1 x2 x3 vi = some (r, vi') → J G Γ 0 0 59 [(0, .ref (G.1 + o)), (1, .int x1), (2, .int x2), (3, .int x3)] [] sv vi vl0 := by
  intro x1 x2 x3 vi  h
  unfold fX3_takeFromAbove_59 at h
  refine j_iinc (v := (x3 + (-1))) (L' := [(3, .int (x3 + (-1))), (0, .ref (G.1 + o)), (1, .int x1), (2, .int x2)]) B dX3_takeFromAbove_59 3 rfl rfl (by decide) rfl ?_
  refine j_goto (tgt := 9) B dX3_takeFromAbove_62 (by decide) ?_
  refine j_locals [1, 2, 3, 0] rfl ?_
  exact hk9 (x1) (x2) ((x3 + (-1))) (vi)  h
def fX3_takeFromAbove_9 (o : Nat) : Nat → Int32 → Int32 → Int32 → VI → Option (Int32 × VI)
  | 0, _, _, _, _ => none
  | F + 1, x1, x2, x3, vi => if x3 < 0 then some ((x1 - x2), vi) else if x2 ≤ 0 then some ((x1 - x2), vi) else if inb x3 12 = true then if inb x3 12 = true then if inb x3 12 = true then if inb x3 12 = true then if ((j_up vi (o + 2) x3.toNatClampNeg ((vi (o + 2) x3.toNatClampNeg) - ((if (vi (o + 2) x3.toNatClampNeg) < x2 then (vi (o + 2) x3.toNatClampNeg) else x2) : Int32))) (o + 2) x3.toNatClampNeg) = 0 then fX3_takeFromAbove_59 o (fX3_takeFromAbove_9 o F) x1 (x2 - ((if (vi (o + 2) x3.toNatClampNeg) < x2 then (vi (o + 2) x3.toNatClampNeg) else x2) : Int32)) x3 (j_up (j_up vi (o + 2) x3.toNatClampNeg ((vi (o + 2) x3.toNatClampNeg) - ((if (vi (o + 2) x3.toNatClampNeg) < x2 then (vi (o + 2) x3.toNatClampNeg) else x2) : Int32))) o 2 x3) else fX3_takeFromAbove_59 o (fX3_takeFromAbove_9 o F) x1 (x2 - ((if (vi (o + 2) x3.toNatClampNeg) < x2 then (vi (o + 2) x3.toNatClampNeg) else x2) : Int32)) x3 (j_up vi (o + 2) x3.toNatClampNeg ((vi (o + 2) x3.toNatClampNeg) - ((if (vi (o + 2) x3.toNatClampNeg) < x2 then (vi (o + 2) x3.toNatClampNeg) else x2) : Int32))) else none else none else none else none
theorem tX3_takeFromAbove_9 {G : GT} {sv : SV} {vl0 : VL} {Γ : CT} {o : Nat} {r : Int32} {vi' : VI} (B : Base G Γ mX3_takeFromAbove 2 0 0) (E : Ends G Γ 0 0 (QI r sv vi' vl0)) (ho : isDust sv o) : ∀ (F : Nat) (x1 : Int32) (x2 : Int32) (x3 : Int32) (vi : VI), fX3_takeFromAbove_9 o F x1 x2 x3 vi = some (r, vi') → J G Γ 0 0 9 [(0, .ref (G.1 + o)), (1, .int x1), (2, .int x2), (3, .int x3)] [] sv vi vl0 := by
  intro F
  induction F with
  | zero =>
    intro x1 x2 x3 vi  h
    cases (show (none : Option (Int32 × VI)) = some (r, vi') from h)
  | succ F ih =>
    intro x1 x2 x3 vi  h
    rw [fX3_takeFromAbove_9] at h
    refine j_iload_n B dX3_takeFromAbove_9 rfl 3 rfl ?_
    refine j_if_lt (tgt := 65) B dX3_takeFromAbove_10 (by decide) (fun c => ?_) (fun c => ?_)
    · replace h := h_pos c h
      refine j_iload_n B dX3_takeFromAbove_65 rfl 1 rfl ?_
      refine j_iload_n B dX3_takeFromAbove_66 rfl 2 rfl ?_
      refine j_isub B dX3_takeFromAbove_67 ?_
      obtain ⟨e1, e2⟩ := Prod.mk.inj (Option.some.inj h)
      subst e1
      subst e2
      exact j_iret B E rfl dX3_takeFromAbove_68 (Nat.le_refl _) (Nat.le_refl _) ⟨rfl, rfl, rfl, rfl⟩
    · replace h := h_neg c h
      refine j_iload_n B dX3_takeFromAbove_13 rfl 2 rfl ?_
      refine j_if_le (tgt := 65) B dX3_takeFromAbove_14 (by decide) (fun c => ?_) (fun c => ?_)
      · replace h := h_pos c h
        refine j_iload_n B dX3_takeFromAbove_65 rfl 1 rfl ?_
        refine j_iload_n B dX3_takeFromAbove_66 rfl 2 rfl ?_
        refine j_isub B dX3_takeFromAbove_67 ?_
        obtain ⟨e1, e2⟩ := Prod.mk.inj (Option.some.inj h)
        subst e1
        subst e2
        exact j_iret B E rfl dX3_takeFromAbove_68 (Nat.le_refl _) (Nat.le_refl _) ⟨rfl, rfl, rfl, rfl⟩
      · replace h := h_neg c h
        refine j_iload_n B dX3_takeFromAbove_17 rfl 2 rfl ?_
        refine j_aload_n B dX3_takeFromAbove_18 rfl 0 rfl ?_
        refine gf_RX3_15 B rfl ((ho).1) (ho).2.2.1 dX3_takeFromAbove_19 ?_
        refine j_iload_n B dX3_takeFromAbove_22 rfl 3 rfl ?_
        obtain ⟨b1, h⟩ := h_inb h
        refine j_iald B ((ho).2.2.2.2) b1 dX3_takeFromAbove_23 ?_
        refine j_mmin B (jt_RX3_36).2.2.1 wst_J9_min_7cf53 wini_RJ9 wcm_min (by decide) (Nat.le_refl _) (Nat.le_refl _) (Nat.le_of_ble_eq_true rfl) dX3_takeFromAbove_24 ?_
        refine j_istore (L' := [(4, .int ((if (vi (o + 2) x3.toNatClampNeg) < x2 then (vi (o + 2) x3.toNatClampNeg) else x2) : Int32)), (0, .ref (G.1 + o)), (1, .int x1), (2, .int x2), (3, .int x3)]) B dX3_takeFromAbove_27 (by decide) rfl ?_
        refine j_aload_n B dX3_takeFromAbove_29 rfl 1 rfl ?_
        refine gf_RX3_15 B rfl ((ho).1) (ho).2.2.1 dX3_takeFromAbove_30 ?_
        refine j_iload_n B dX3_takeFromAbove_33 rfl 4 rfl ?_
        refine j_dup2 B dX3_takeFromAbove_34 rfl rfl ?_
        obtain ⟨b2, h⟩ := h_inb h
        refine j_iald B ((ho).2.2.2.2) b2 dX3_takeFromAbove_35 ?_
        refine j_iload B dX3_takeFromAbove_36 0 rfl ?_
        refine j_isub B dX3_takeFromAbove_38 ?_
        obtain ⟨b3, h⟩ := h_inb h
        refine j_iast B ((ho).2.2.2.2) b3 dX3_takeFromAbove_39 ?_
        refine j_iload_n B dX3_takeFromAbove_40 rfl 3 rfl ?_
        refine j_iload B dX3_takeFromAbove_41 0 rfl ?_
        refine j_isub B dX3_takeFromAbove_43 ?_
        refine j_istore_n (L' := [(2, .int (x2 - ((if (vi (o + 2) x3.toNatClampNeg) < x2 then (vi (o + 2) x3.toNatClampNeg) else x2) : Int32))), (4, .int ((if (vi (o + 2) x3.toNatClampNeg) < x2 then (vi (o + 2) x3.toNatClampNeg) else x2) : Int32)), (0, .ref (G.1 + o)), (1, .int x1), (3, .int x3)]) B dX3_takeFromAbove_44 rfl (by decide) rfl ?_
        refine j_aload_n B dX3_takeFromAbove_45 rfl 2 rfl ?_
        refine gf_RX3_15 B rfl ((ho).1) (ho).2.2.1 dX3_takeFromAbove_46 ?_
        refine j_iload_n B dX3_takeFromAbove_49 rfl 4 rfl ?_
        obtain ⟨b4, h⟩ := h_inb h
        refine j_iald B ((ho).2.2.2.2) b4 dX3_takeFromAbove_50 ?_
        refine j_if_ne (tgt := 59) B dX3_takeFromAbove_51 (by decide) (fun c => ?_) (fun c => ?_)
        · replace h := h_neg c h
          refine j_locals [2, 3, 0, 4] rfl ?_
          exact tX3_takeFromAbove_59 B E ho ih (x1) ((x2 - ((if (vi (o + 2) x3.toNatClampNeg) < x2 then (vi (o + 2) x3.toNatClampNeg) else x2) : Int32))) (x3) ((j_up vi (o + 2) x3.toNatClampNeg ((vi (o + 2) x3.toNatClampNeg) - ((if (vi (o + 2) x3.toNatClampNeg) < x2 then (vi (o + 2) x3.toNatClampNeg) else x2) : Int32))))  h
        · replace h := h_pos c h
          refine j_aload_n B dX3_takeFromAbove_54 rfl 2 rfl ?_
          refine j_iload_n B dX3_takeFromAbove_55 rfl 4 rfl ?_
          refine pf_RX3_24 B rfl ((ho).1) dX3_takeFromAbove_56 ?_
          refine j_locals [2, 3, 0, 4] rfl ?_
          exact tX3_takeFromAbove_59 B E ho ih (x1) ((x2 - ((if (vi (o + 2) x3.toNatClampNeg) < x2 then (vi (o + 2) x3.toNatClampNeg) else x2) : Int32))) (x3) ((j_up (j_up vi (o + 2) x3.toNatClampNeg ((vi (o + 2) x3.toNatClampNeg) - ((if (vi (o + 2) x3.toNatClampNeg) < x2 then (vi (o + 2) x3.toNatClampNeg) else x2) : Int32))) o 2 x3))  h
def fX3_takeFromAbove (o : Nat) (x1 : Int32) (vi0 : VI) : Option (Int32 × VI) := fX3_takeFromAbove_9 o FU x1 x1 ((vi0 o 2) - 1) vi0
theorem tX3_takeFromAbove {G : GT} {sv : SV} {vi0 : VI} {vl0 : VL} {o : Nat} {x1 : Int32} {r : Int32} {vi' : VI} (ho : isDust sv o) (h : fX3_takeFromAbove o x1 vi0 = some (r, vi')) : Call G mX3_takeFromAbove 2 0 0 [.ref (G.1 + o), .int x1] sv vi0 vl0 (QI r sv vi' vl0) := by
  refine j_mk (by decide +kernel) (Nat.le_of_ble_eq_true rfl) (fun Γ B E => ?_)
  show J G Γ 0 0 0 [(0, .ref (G.1 + o)), (1, .int x1)] [] sv vi0 vl0
  unfold fX3_takeFromAbove at h
  refine j_iload_n B dX3_takeFromAbove_0 rfl 1 rfl ?_
  refine j_istore_n (L' := [(2, .int x1), (0, .ref (G.1 + o)), (1, .int x1)]) B dX3_takeFromAbove_1 rfl (by decide) rfl ?_
  refine j_aload_n B dX3_takeFromAbove_2 rfl 1 rfl ?_
  refine gf_RX3_24 B rfl ((ho).1) dX3_takeFromAbove_3 ?_
  refine j_iconst B dX3_takeFromAbove_6 (v := 1) (by decide) ?_
  refine j_isub B dX3_takeFromAbove_7 ?_
  refine j_istore_n (L' := [(3, .int ((vi0 o 2) - 1)), (2, .int x1), (0, .ref (G.1 + o)), (1, .int x1)]) B dX3_takeFromAbove_8 rfl (by decide) rfl ?_
  refine j_locals [2, 3, 1, 0] rfl ?_
  exact tX3_takeFromAbove_9 B E ho FU (x1) (x1) (((vi0 o 2) - 1)) (vi0)  h
def fX3_readBits_4 (o : Nat) (vi0 : VI) : Nat → Int32 → Int32 → Option (Int32)
  | 0, _, _ => none
  | F + 1, x1, x2 => if (vi0 o 2) ≤ x2 then some (x1) else if inb x2 12 = true then fX3_readBits_4 o vi0 F (x1 ||| ((1 : Int32) <<< ((vi0 (o + 1) x2.toNatClampNeg) &&& 31))) (x2 + 1) else none
theorem tX3_readBits_4 {G : GT} {sv : SV} {vi0 : VI} {vl0 : VL} {Γ : CT} {o : Nat} {r : Int32} (B : Base G Γ mX3_readBits 0 0 0) (E : Ends G Γ 0 0 (QI r sv vi0 vl0)) (ho : isDust sv o) : ∀ (F : Nat) (x1 : Int32) (x2 : Int32), fX3_readBits_4 o vi0 F x1 x2 = some (r) → J G Γ 0 0 4 [(0, .ref (G.1 + o)), (1, .int x1), (2, .int x2)] [] sv vi0 vl0 := by
  intro F
  induction F with
  | zero =>
    intro x1 x2  h
    cases (show (none : Option (Int32)) = some (r) from h)
  | succ F ih =>
    intro x1 x2  h
    rw [fX3_readBits_4] at h
    refine j_iload_n B dX3_readBits_4 rfl 2 rfl ?_
    refine j_aload_n B dX3_readBits_5 rfl 0 rfl ?_
    refine gf_RX3_24 B rfl ((ho).1) dX3_readBits_6 ?_
    refine j_icmp_ge (tgt := 29) B dX3_readBits_9 (by decide) (fun c => ?_) (fun c => ?_)
    · replace h := h_pos c h
      refine j_iload_n B dX3_readBits_29 rfl 1 rfl ?_
      have e1 := Option.some.inj h
      subst e1
      exact j_iret B E rfl dX3_readBits_30 (Nat.le_refl _) (Nat.le_refl _) ⟨rfl, rfl, rfl, rfl⟩
    · replace h := h_neg c h
      refine j_iload_n B dX3_readBits_12 rfl 1 rfl ?_
      refine j_iconst B dX3_readBits_13 (v := 1) (by decide) ?_
      refine j_aload_n B dX3_readBits_14 rfl 0 rfl ?_
      refine gf_RX3_9 B rfl ((ho).1) (ho).2.1 dX3_readBits_15 ?_
      refine j_iload_n B dX3_readBits_18 rfl 2 rfl ?_
      obtain ⟨b1, h⟩ := h_inb h
      refine j_iald B ((ho).2.2.2.1) b1 dX3_readBits_19 ?_
      refine j_ishl B dX3_readBits_20 ?_
      refine j_ior B dX3_readBits_21 ?_
      refine j_istore_n (L' := [(1, .int (x1 ||| ((1 : Int32) <<< ((vi0 (o + 1) x2.toNatClampNeg) &&& 31)))), (0, .ref (G.1 + o)), (2, .int x2)]) B dX3_readBits_22 rfl (by decide) rfl ?_
      refine j_iinc (v := (x2 + 1)) (L' := [(2, .int (x2 + 1)), (1, .int (x1 ||| ((1 : Int32) <<< ((vi0 (o + 1) x2.toNatClampNeg) &&& 31)))), (0, .ref (G.1 + o))]) B dX3_readBits_23 2 rfl rfl (by decide) rfl ?_
      refine j_goto (tgt := 4) B dX3_readBits_26 (by decide) ?_
      refine j_locals [2, 1, 0] rfl ?_
      exact ih ((x1 ||| ((1 : Int32) <<< ((vi0 (o + 1) x2.toNatClampNeg) &&& 31)))) ((x2 + 1))  h
def fX3_readBits (o : Nat) (vi0 : VI) : Option (Int32) := fX3_readBits_4 o vi0 FU 0 0
theorem tX3_readBits {G : GT} {sv : SV} {vi0 : VI} {vl0 : VL} {o : Nat} {r : Int32} (ho : isDust sv o) (h : fX3_readBits o vi0 = some (r)) : Call G mX3_readBits 0 0 0 [.ref (G.1 + o)] sv vi0 vl0 (QI r sv vi0 vl0) := by
  refine j_mk (by decide +kernel) (Nat.le_of_ble_eq_true rfl) (fun Γ B E => ?_)
  show J G Γ 0 0 0 [(0, .ref (G.1 + o))] [] sv vi0 vl0
  unfold fX3_readBits at h
  refine j_iconst B dX3_readBits_0 (v := 0) (by decide) ?_
  refine j_istore_n (L' := [(1, .int 0), (0, .ref (G.1 + o))]) B dX3_readBits_1 rfl (by decide) rfl ?_
  refine j_iconst B dX3_readBits_2 (v := 0) (by decide) ?_
  refine j_istore_n (L' := [(2, .int 0), (1, .int 0), (0, .ref (G.1 + o))]) B dX3_readBits_3 rfl (by decide) rfl ?_
  refine j_locals [2, 1, 0] rfl ?_
  exact tX3_readBits_4 B E ho FU (0) (0)  h
def fX3_nextOf_6 (o : Nat) (vi0 : VI) : Nat → Int32 → Int32 → Option (Int32)
  | 0, _, _ => none
  | F + 1, x1, x3 => if (vi0 o 2) ≤ x3 then some ((-2)) else if inb x3 12 = true then if (vi0 (o + 1) x3.toNatClampNeg) = x1 then some (x3) else fX3_nextOf_6 o vi0 F x1 (x3 + 1) else none
theorem tX3_nextOf_6 {G : GT} {sv : SV} {vi0 : VI} {vl0 : VL} {Γ : CT} {o : Nat} {r : Int32} (B : Base G Γ mX3_nextOf 2 0 0) (E : Ends G Γ 0 0 (QI r sv vi0 vl0)) (ho : isDust sv o) : ∀ (F : Nat) (x1 : Int32) (x3 : Int32), fX3_nextOf_6 o vi0 F x1 x3 = some (r) → J G Γ 0 0 6 [(0, .ref (G.1 + o)), (1, .int x1), (3, .int x3)] [] sv vi0 vl0 := by
  intro F
  induction F with
  | zero =>
    intro x1 x3  h
    cases (show (none : Option (Int32)) = some (r) from h)
  | succ F ih =>
    intro x1 x3  h
    rw [fX3_nextOf_6] at h
    refine j_iload_n B dX3_nextOf_6 rfl 2 rfl ?_
    refine j_aload_n B dX3_nextOf_7 rfl 0 rfl ?_
    refine gf_RX3_24 B rfl ((ho).1) dX3_nextOf_8 ?_
    refine j_icmp_ge (tgt := 32) B dX3_nextOf_11 (by decide) (fun c => ?_) (fun c => ?_)
    · replace h := h_pos c h
      refine j_bipush B dX3_nextOf_32 (v := (-2)) (by decide) ?_
      have e1 := Option.some.inj h
      subst e1
      exact j_iret B E rfl dX3_nextOf_34 (Nat.le_refl _) (Nat.le_refl _) ⟨rfl, rfl, rfl, rfl⟩
    · replace h := h_neg c h
      refine j_aload_n B dX3_nextOf_14 rfl 0 rfl ?_
      refine gf_RX3_9 B rfl ((ho).1) (ho).2.1 dX3_nextOf_15 ?_
      refine j_iload_n B dX3_nextOf_18 rfl 2 rfl ?_
      obtain ⟨b1, h⟩ := h_inb h
      refine j_iald B ((ho).2.2.2.1) b1 dX3_nextOf_19 ?_
      refine j_iload_n B dX3_nextOf_20 rfl 1 rfl ?_
      refine j_icmp_ne (tgt := 26) B dX3_nextOf_21 (by decide) (fun c => ?_) (fun c => ?_)
      · replace h := h_neg c h
        refine j_iinc (v := (x3 + 1)) (L' := [(3, .int (x3 + 1)), (0, .ref (G.1 + o)), (1, .int x1)]) B dX3_nextOf_26 2 rfl rfl (by decide) rfl ?_
        refine j_goto (tgt := 6) B dX3_nextOf_29 (by decide) ?_
        refine j_locals [1, 2, 0] rfl ?_
        exact ih (x1) ((x3 + 1))  h
      · replace h := h_pos c h
        refine j_iload_n B dX3_nextOf_24 rfl 2 rfl ?_
        have e1 := Option.some.inj h
        subst e1
        exact j_iret B E rfl dX3_nextOf_25 (Nat.le_refl _) (Nat.le_refl _) ⟨rfl, rfl, rfl, rfl⟩
def fX3_nextOf (o : Nat) (x1 : Int32) (x2 : Int32) (vi0 : VI) : Option (Int32) := fX3_nextOf_6 o vi0 FU x1 ((if x2 < 0 then 0 else x2) : Int32)
theorem tX3_nextOf {G : GT} {sv : SV} {vi0 : VI} {vl0 : VL} {o : Nat} {x1 : Int32} {x2 : Int32} {r : Int32} (ho : isDust sv o) (h : fX3_nextOf o x1 x2 vi0 = some (r)) : Call G mX3_nextOf 2 0 0 [.ref (G.1 + o), .int x1, .int x2] sv vi0 vl0 (QI r sv vi0 vl0) := by
  refine j_mk (by decide +kernel) (Nat.le_of_ble_eq_true rfl) (fun Γ B E => ?_)
  show J G Γ 0 0 0 [(0, .ref (G.1 + o)), (1, .int x1), (2, .int x2)] [] sv vi0 vl0
  unfold fX3_nextOf at h
  refine j_iload_n B dX3_nextOf_0 rfl 2 rfl ?_
  refine j_iconst B dX3_nextOf_1 (v := 0) (by decide) ?_
  refine j_mmax B (jt_RX3_48).2.2.1 wst_J9_max_7cf53 wini_RJ9 wcm_max (by decide) (Nat.le_refl _) (Nat.le_refl _) (Nat.le_of_ble_eq_true rfl) dX3_nextOf_2 ?_
  refine j_istore_n (L' := [(3, .int ((if x2 < 0 then 0 else x2) : Int32)), (0, .ref (G.1 + o)), (1, .int x1), (2, .int x2)]) B dX3_nextOf_5 rfl (by decide) rfl ?_
  refine j_locals [1, 2, 0] rfl ?_
  exact tX3_nextOf_6 B E ho FU (x1) (((if x2 < 0 then 0 else x2) : Int32))  h
def fX3_unlikeFromAbove_59 (o : Nat) (vi0 : VI) (k12 : Int32 → Int32 → Int32 → Int32 → Option (Int32)) (x1 : Int32) (x2 : Int32) (x3 : Int32) (x4 : Int32) : Option (Int32) := k12 x1 x2 x3 (x4 + (-1))
theorem tX3_unlikeFromAbove_59 {G : GT} {sv : SV} {vi0 : VI} {vl0 : VL} {Γ : CT} {o : Nat} {r : Int32} {k12 : Int32 → Int32 → Int32 → Int32 → Option (Int32)} (B : Base G Γ mX3_unlikeFromAbove 0 0 0) (E : Ends G Γ 0 0 (QI r sv vi0 vl0)) (ho : isDust sv o) (hk12 : ∀ (x1 : Int32) (x2 : Int32) (x3 : Int32) (x4 : Int32), k12 x1 x2 x3 x4 = some (r) → J G Γ 0 0 12 [(0, .ref (G.1 + o)), (1, .int x1), (2, .int x2), (3, .int x3), (4, .int x4)] [] sv vi0 vl0) : ∀ (x1 : Int32) (x2 : Int32) (x3 : Int32) (x4 : Int32), fX3_unlikeFromAbove_59 o vi0 k12 x1 x2 x3 x4 = some (r) → J G Γ 0 0 59 [(0, .ref (G.1 + o)), (1, .int x1), (2, .int x2), (3, .int x3), (4, .int x4)] [] sv vi0 vl0 := by
  intro x1 x2 x3 x4  h
  unfold fX3_unlikeFromAbove_59 at h
  refine j_iinc (v := (x4 + (-1))) (L' := [(4, .int (x4 + (-1))), (0, .ref (G.1 + o)), (1, .int x1), (2, .int x2), (3, .int x3)]) B dX3_unlikeFromAbove_59 4 rfl rfl (by decide) rfl ?_
  refine j_goto (tgt := 12) B dX3_unlikeFromAbove_62 (by decide) ?_
  refine j_locals [1, 2, 3, 4, 0] rfl ?_
  exact hk12 (x1) (x2) (x3) ((x4 + (-1)))  h
def fX3_unlikeFromAbove_12 (o : Nat) (vi0 : VI) : Nat → Int32 → Int32 → Int32 → Int32 → Option (Int32)
  | 0, _, _, _, _ => none
  | F + 1, x1, x2, x3, x4 => if x4 < 0 then some ((-2)) else if inb x4 12 = true then if ((x2 >>> ((vi0 (o + 1) x4.toNatClampNeg) &&& 31)) &&& 1) = 0 then if x3 = x1 then if inb x4 12 = true then some ((vi0 (o + 1) x4.toNatClampNeg)) else none else if inb x4 12 = true then fX3_unlikeFromAbove_59 o vi0 (fX3_unlikeFromAbove_12 o vi0 F) x1 (x2 ||| ((1 : Int32) <<< ((vi0 (o + 1) x4.toNatClampNeg) &&& 31))) (x3 + 1) x4 else none else fX3_unlikeFromAbove_59 o vi0 (fX3_unlikeFromAbove_12 o vi0 F) x1 x2 x3 x4 else none
theorem tX3_unlikeFromAbove_12 {G : GT} {sv : SV} {vi0 : VI} {vl0 : VL} {Γ : CT} {o : Nat} {r : Int32} (B : Base G Γ mX3_unlikeFromAbove 0 0 0) (E : Ends G Γ 0 0 (QI r sv vi0 vl0)) (ho : isDust sv o) : ∀ (F : Nat) (x1 : Int32) (x2 : Int32) (x3 : Int32) (x4 : Int32), fX3_unlikeFromAbove_12 o vi0 F x1 x2 x3 x4 = some (r) → J G Γ 0 0 12 [(0, .ref (G.1 + o)), (1, .int x1), (2, .int x2), (3, .int x3), (4, .int x4)] [] sv vi0 vl0 := by
  intro F
  induction F with
  | zero =>
    intro x1 x2 x3 x4  h
    cases (show (none : Option (Int32)) = some (r) from h)
  | succ F ih =>
    intro x1 x2 x3 x4  h
    rw [fX3_unlikeFromAbove_12] at h
    refine j_iload B dX3_unlikeFromAbove_12 4 rfl ?_
    refine j_if_lt (tgt := 65) B dX3_unlikeFromAbove_14 (by decide) (fun c => ?_) (fun c => ?_)
    · replace h := h_pos c h
      refine j_bipush B dX3_unlikeFromAbove_65 (v := (-2)) (by decide) ?_
      have e1 := Option.some.inj h
      subst e1
      exact j_iret B E rfl dX3_unlikeFromAbove_67 (Nat.le_refl _) (Nat.le_refl _) ⟨rfl, rfl, rfl, rfl⟩
    · replace h := h_neg c h
      refine j_iload_n B dX3_unlikeFromAbove_17 rfl 2 rfl ?_
      refine j_aload_n B dX3_unlikeFromAbove_18 rfl 0 rfl ?_
      refine gf_RX3_9 B rfl ((ho).1) (ho).2.1 dX3_unlikeFromAbove_19 ?_
      refine j_iload B dX3_unlikeFromAbove_22 4 rfl ?_
      obtain ⟨b1, h⟩ := h_inb h
      refine j_iald B ((ho).2.2.2.1) b1 dX3_unlikeFromAbove_24 ?_
      refine j_ishr B dX3_unlikeFromAbove_25 ?_
      refine j_iconst B dX3_unlikeFromAbove_26 (v := 1) (by decide) ?_
      refine j_iand B dX3_unlikeFromAbove_27 ?_
      refine j_if_ne (tgt := 59) B dX3_unlikeFromAbove_28 (by decide) (fun c => ?_) (fun c => ?_)
      · replace h := h_neg c h
        refine j_locals [0, 1, 2, 3, 4] rfl ?_
        exact tX3_unlikeFromAbove_59 B E ho ih (x1) (x2) (x3) (x4)  h
      · replace h := h_pos c h
        refine j_iload_n B dX3_unlikeFromAbove_31 rfl 3 rfl ?_
        refine j_iload_n B dX3_unlikeFromAbove_32 rfl 1 rfl ?_
        refine j_icmp_ne (tgt := 44) B dX3_unlikeFromAbove_33 (by decide) (fun c => ?_) (fun c => ?_)
        · replace h := h_neg c h
          refine j_iload_n B dX3_unlikeFromAbove_44 rfl 2 rfl ?_
          refine j_iconst B dX3_unlikeFromAbove_45 (v := 1) (by decide) ?_
          refine j_aload_n B dX3_unlikeFromAbove_46 rfl 0 rfl ?_
          refine gf_RX3_9 B rfl ((ho).1) (ho).2.1 dX3_unlikeFromAbove_47 ?_
          refine j_iload B dX3_unlikeFromAbove_50 4 rfl ?_
          obtain ⟨b2, h⟩ := h_inb h
          refine j_iald B ((ho).2.2.2.1) b2 dX3_unlikeFromAbove_52 ?_
          refine j_ishl B dX3_unlikeFromAbove_53 ?_
          refine j_ior B dX3_unlikeFromAbove_54 ?_
          refine j_istore_n (L' := [(2, .int (x2 ||| ((1 : Int32) <<< ((vi0 (o + 1) x4.toNatClampNeg) &&& 31)))), (0, .ref (G.1 + o)), (1, .int x1), (3, .int x3), (4, .int x4)]) B dX3_unlikeFromAbove_55 rfl (by decide) rfl ?_
          refine j_iinc (v := (x3 + 1)) (L' := [(3, .int (x3 + 1)), (2, .int (x2 ||| ((1 : Int32) <<< ((vi0 (o + 1) x4.toNatClampNeg) &&& 31)))), (0, .ref (G.1 + o)), (1, .int x1), (4, .int x4)]) B dX3_unlikeFromAbove_56 3 rfl rfl (by decide) rfl ?_
          refine j_locals [2, 3, 1, 0, 4] rfl ?_
          exact tX3_unlikeFromAbove_59 B E ho ih (x1) ((x2 ||| ((1 : Int32) <<< ((vi0 (o + 1) x4.toNatClampNeg) &&& 31)))) ((x3 + 1)) (x4)  h
        · replace h := h_pos c h
          refine j_aload_n B dX3_unlikeFromAbove_36 rfl 0 rfl ?_
          refine gf_RX3_9 B rfl ((ho).1) (ho).2.1 dX3_unlikeFromAbove_37 ?_
          refine j_iload B dX3_unlikeFromAbove_40 4 rfl ?_
          obtain ⟨b3, h⟩ := h_inb h
          refine j_iald B ((ho).2.2.2.1) b3 dX3_unlikeFromAbove_42 ?_
          have e1 := Option.some.inj h
          subst e1
          exact j_iret B E rfl dX3_unlikeFromAbove_43 (Nat.le_refl _) (Nat.le_refl _) ⟨rfl, rfl, rfl, rfl⟩
def fX3_unlikeFromAbove (o : Nat) (x1 : Int32) (vi0 : VI) : Option (Int32) := fX3_unlikeFromAbove_12 o vi0 FU x1 0 0 ((vi0 o 2) - 1)
theorem tX3_unlikeFromAbove {G : GT} {sv : SV} {vi0 : VI} {vl0 : VL} {o : Nat} {x1 : Int32} {r : Int32} (ho : isDust sv o) (h : fX3_unlikeFromAbove o x1 vi0 = some (r)) : Call G mX3_unlikeFromAbove 0 0 0 [.ref (G.1 + o), .int x1] sv vi0 vl0 (QI r sv vi0 vl0) := by
  refine j_mk (by decide +kernel) (Nat.le_of_ble_eq_true rfl) (fun Γ B E => ?_)
  show J G Γ 0 0 0 [(0, .ref (G.1 + o)), (1, .int x1)] [] sv vi0 vl0
  unfold fX3_unlikeFromAbove at h
  refine j_iconst B dX3_unlikeFromAbove_0 (v := 0) (by decide) ?_
  refine j_istore_n (L' := [(2, .int 0), (0, .ref (G.1 + o)), (1, .int x1)]) B dX3_unlikeFromAbove_1 rfl (by decide) rfl ?_
  refine j_iconst B dX3_unlikeFromAbove_2 (v := 0) (by decide) ?_
  refine j_istore_n (L' := [(3, .int 0), (2, .int 0), (0, .ref (G.1 + o)), (1, .int x1)]) B dX3_unlikeFromAbove_3 rfl (by decide) rfl ?_
  refine j_aload_n B dX3_unlikeFromAbove_4 rfl 2 rfl ?_
  refine gf_RX3_24 B rfl ((ho).1) dX3_unlikeFromAbove_5 ?_
  refine j_iconst B dX3_unlikeFromAbove_8 (v := 1) (by decide) ?_
  refine j_isub B dX3_unlikeFromAbove_9 ?_
  refine j_istore (L' := [(4, .int ((vi0 o 2) - 1)), (3, .int 0), (2, .int 0), (0, .ref (G.1 + o)), (1, .int x1)]) B dX3_unlikeFromAbove_10 (by decide) rfl ?_
  refine j_locals [3, 4, 2, 1, 0] rfl ?_
  exact tX3_unlikeFromAbove_12 B E ho FU (x1) (0) (0) (((vi0 o 2) - 1))  h
def fX3_thickOf_31 (o : Nat) (vi0 : VI) (k4 : Int32 → Int32 → Int32 → Option (Int32)) (x1 : Int32) (x2 : Int32) (x3 : Int32) : Option (Int32) := k4 x1 x2 (x3 + 1)
theorem tX3_thickOf_31 {G : GT} {sv : SV} {vi0 : VI} {vl0 : VL} {Γ : CT} {o : Nat} {r : Int32} {k4 : Int32 → Int32 → Int32 → Option (Int32)} (B : Base G Γ mX3_thickOf 0 0 0) (E : Ends G Γ 0 0 (QI r sv vi0 vl0)) (ho : isDust sv o) (hk4 : ∀ (x1 : Int32) (x2 : Int32) (x3 : Int32), k4 x1 x2 x3 = some (r) → J G Γ 0 0 4 [(0, .ref (G.1 + o)), (1, .int x1), (2, .int x2), (3, .int x3)] [] sv vi0 vl0) : ∀ (x1 : Int32) (x2 : Int32) (x3 : Int32), fX3_thickOf_31 o vi0 k4 x1 x2 x3 = some (r) → J G Γ 0 0 31 [(0, .ref (G.1 + o)), (1, .int x1), (2, .int x2), (3, .int x3)] [] sv vi0 vl0 := by
  intro x1 x2 x3  h
  unfold fX3_thickOf_31 at h
  refine j_iinc (v := (x3 + 1)) (L' := [(3, .int (x3 + 1)), (0, .ref (G.1 + o)), (1, .int x1), (2, .int x2)]) B dX3_thickOf_31 3 rfl rfl (by decide) rfl ?_
  refine j_goto (tgt := 4) B dX3_thickOf_34 (by decide) ?_
  refine j_locals [1, 2, 3, 0] rfl ?_
  exact hk4 (x1) (x2) ((x3 + 1))  h
def fX3_thickOf_4 (o : Nat) (vi0 : VI) : Nat → Int32 → Int32 → Int32 → Option (Int32)
  | 0, _, _, _ => none
  | F + 1, x1, x2, x3 => if (vi0 o 2) ≤ x3 then some (x2) else if inb x3 12 = true then if (vi0 (o + 1) x3.toNatClampNeg) = x1 then if inb x3 12 = true then fX3_thickOf_31 o vi0 (fX3_thickOf_4 o vi0 F) x1 (x2 + (vi0 (o + 2) x3.toNatClampNeg)) x3 else none else fX3_thickOf_31 o vi0 (fX3_thickOf_4 o vi0 F) x1 x2 x3 else none
theorem tX3_thickOf_4 {G : GT} {sv : SV} {vi0 : VI} {vl0 : VL} {Γ : CT} {o : Nat} {r : Int32} (B : Base G Γ mX3_thickOf 0 0 0) (E : Ends G Γ 0 0 (QI r sv vi0 vl0)) (ho : isDust sv o) : ∀ (F : Nat) (x1 : Int32) (x2 : Int32) (x3 : Int32), fX3_thickOf_4 o vi0 F x1 x2 x3 = some (r) → J G Γ 0 0 4 [(0, .ref (G.1 + o)), (1, .int x1), (2, .int x2), (3, .int x3)] [] sv vi0 vl0 := by
  intro F
  induction F with
  | zero =>
    intro x1 x2 x3  h
    cases (show (none : Option (Int32)) = some (r) from h)
  | succ F ih =>
    intro x1 x2 x3  h
    rw [fX3_thickOf_4] at h
    refine j_iload_n B dX3_thickOf_4 rfl 3 rfl ?_
    refine j_aload_n B dX3_thickOf_5 rfl 0 rfl ?_
    refine gf_RX3_24 B rfl ((ho).1) dX3_thickOf_6 ?_
    refine j_icmp_ge (tgt := 37) B dX3_thickOf_9 (by decide) (fun c => ?_) (fun c => ?_)
    · replace h := h_pos c h
      refine j_iload_n B dX3_thickOf_37 rfl 2 rfl ?_
      have e1 := Option.some.inj h
      subst e1
      exact j_iret B E rfl dX3_thickOf_38 (Nat.le_refl _) (Nat.le_refl _) ⟨rfl, rfl, rfl, rfl⟩
    · replace h := h_neg c h
      refine j_aload_n B dX3_thickOf_12 rfl 0 rfl ?_
      refine gf_RX3_9 B rfl ((ho).1) (ho).2.1 dX3_thickOf_13 ?_
      refine j_iload_n B dX3_thickOf_16 rfl 3 rfl ?_
      obtain ⟨b1, h⟩ := h_inb h
      refine j_iald B ((ho).2.2.2.1) b1 dX3_thickOf_17 ?_
      refine j_iload_n B dX3_thickOf_18 rfl 1 rfl ?_
      refine j_icmp_ne (tgt := 31) B dX3_thickOf_19 (by decide) (fun c => ?_) (fun c => ?_)
      · replace h := h_neg c h
        refine j_locals [0, 1, 2, 3] rfl ?_
        exact tX3_thickOf_31 B E ho ih (x1) (x2) (x3)  h
      · replace h := h_pos c h
        refine j_iload_n B dX3_thickOf_22 rfl 2 rfl ?_
        refine j_aload_n B dX3_thickOf_23 rfl 0 rfl ?_
        refine gf_RX3_15 B rfl ((ho).1) (ho).2.2.1 dX3_thickOf_24 ?_
        refine j_iload_n B dX3_thickOf_27 rfl 3 rfl ?_
        obtain ⟨b2, h⟩ := h_inb h
        refine j_iald B ((ho).2.2.2.2) b2 dX3_thickOf_28 ?_
        refine j_iadd B dX3_thickOf_29 ?_
        refine j_istore_n (L' := [(2, .int (x2 + (vi0 (o + 2) x3.toNatClampNeg))), (0, .ref (G.1 + o)), (1, .int x1), (3, .int x3)]) B dX3_thickOf_30 rfl (by decide) rfl ?_
        refine j_locals [1, 2, 0, 3] rfl ?_
        exact tX3_thickOf_31 B E ho ih (x1) ((x2 + (vi0 (o + 2) x3.toNatClampNeg))) (x3)  h
def fX3_thickOf (o : Nat) (x1 : Int32) (vi0 : VI) : Option (Int32) := fX3_thickOf_4 o vi0 FU x1 0 0
theorem tX3_thickOf {G : GT} {sv : SV} {vi0 : VI} {vl0 : VL} {o : Nat} {x1 : Int32} {r : Int32} (ho : isDust sv o) (h : fX3_thickOf o x1 vi0 = some (r)) : Call G mX3_thickOf 0 0 0 [.ref (G.1 + o), .int x1] sv vi0 vl0 (QI r sv vi0 vl0) := by
  refine j_mk (by decide +kernel) (Nat.le_of_ble_eq_true rfl) (fun Γ B E => ?_)
  show J G Γ 0 0 0 [(0, .ref (G.1 + o)), (1, .int x1)] [] sv vi0 vl0
  unfold fX3_thickOf at h
  refine j_iconst B dX3_thickOf_0 (v := 0) (by decide) ?_
  refine j_istore_n (L' := [(2, .int 0), (0, .ref (G.1 + o)), (1, .int x1)]) B dX3_thickOf_1 rfl (by decide) rfl ?_
  refine j_iconst B dX3_thickOf_2 (v := 0) (by decide) ?_
  refine j_istore_n (L' := [(3, .int 0), (2, .int 0), (0, .ref (G.1 + o)), (1, .int x1)]) B dX3_thickOf_3 rfl (by decide) rfl ?_
  refine j_locals [2, 3, 1, 0] rfl ?_
  exact tX3_thickOf_4 B E ho FU (x1) (0) (0)  h
def fX3_ofWhomMost_31 (o : Nat) (vi0 : VI) (k7 : Int32 → Int32 → Int32 → Option (Int32)) (x1 : Int32) (x2 : Int32) (x3 : Int32) : Option (Int32) := k7 x1 x2 (x3 + 1)
theorem tX3_ofWhomMost_31 {G : GT} {sv : SV} {vi0 : VI} {vl0 : VL} {Γ : CT} {o : Nat} {r : Int32} {k7 : Int32 → Int32 → Int32 → Option (Int32)} (B : Base G Γ mX3_ofWhomMost 1 0 0) (E : Ends G Γ 0 0 (QI r sv vi0 vl0)) (ho : isDust sv o) (hk7 : ∀ (x1 : Int32) (x2 : Int32) (x3 : Int32), k7 x1 x2 x3 = some (r) → J G Γ 0 0 7 [(0, .ref (G.1 + o)), (1, .int x1), (2, .int x2), (3, .int x3)] [] sv vi0 vl0) : ∀ (x1 : Int32) (x2 : Int32) (x3 : Int32), fX3_ofWhomMost_31 o vi0 k7 x1 x2 x3 = some (r) → J G Γ 0 0 31 [(0, .ref (G.1 + o)), (1, .int x1), (2, .int x2), (3, .int x3)] [] sv vi0 vl0 := by
  intro x1 x2 x3  h
  unfold fX3_ofWhomMost_31 at h
  refine j_iinc (v := (x3 + 1)) (L' := [(3, .int (x3 + 1)), (0, .ref (G.1 + o)), (1, .int x1), (2, .int x2)]) B dX3_ofWhomMost_31 3 rfl rfl (by decide) rfl ?_
  refine j_goto (tgt := 7) B dX3_ofWhomMost_34 (by decide) ?_
  refine j_locals [1, 2, 3, 0] rfl ?_
  exact hk7 (x1) (x2) ((x3 + 1))  h
def fX3_ofWhomMost_7 (o : Nat) (vi0 : VI) : Nat → Int32 → Int32 → Int32 → Option (Int32)
  | 0, _, _, _ => none
  | F + 1, x1, x2, x3 => if 6 ≤ x3 then some (x1) else (fX3_thickOf o x3 vi0).bind fun r1 => if r1 ≤ x2 then fX3_ofWhomMost_31 o vi0 (fX3_ofWhomMost_7 o vi0 F) x1 x2 x3 else fX3_ofWhomMost_31 o vi0 (fX3_ofWhomMost_7 o vi0 F) x3 r1 x3
theorem tX3_ofWhomMost_7 {G : GT} {sv : SV} {vi0 : VI} {vl0 : VL} {Γ : CT} {o : Nat} {r : Int32} (B : Base G Γ mX3_ofWhomMost 1 0 0) (E : Ends G Γ 0 0 (QI r sv vi0 vl0)) (ho : isDust sv o) : ∀ (F : Nat) (x1 : Int32) (x2 : Int32) (x3 : Int32), fX3_ofWhomMost_7 o vi0 F x1 x2 x3 = some (r) → J G Γ 0 0 7 [(0, .ref (G.1 + o)), (1, .int x1), (2, .int x2), (3, .int x3)] [] sv vi0 vl0 := by
  intro F
  induction F with
  | zero =>
    intro x1 x2 x3  h
    cases (show (none : Option (Int32)) = some (r) from h)
  | succ F ih =>
    intro x1 x2 x3  h
    rw [fX3_ofWhomMost_7] at h
    refine j_iload_n B dX3_ofWhomMost_7 rfl 3 rfl ?_
    refine j_bipush B dX3_ofWhomMost_8 (v := 6) (by decide) ?_
    refine j_icmp_ge (tgt := 37) B dX3_ofWhomMost_10 (by decide) (fun c => ?_) (fun c => ?_)
    · replace h := h_pos c h
      refine j_iload_n B dX3_ofWhomMost_37 rfl 1 rfl ?_
      have e1 := Option.some.inj h
      subst e1
      exact j_iret B E rfl dX3_ofWhomMost_38 (Nat.le_refl _) (Nat.le_refl _) ⟨rfl, rfl, rfl, rfl⟩
    · replace h := h_neg c h
      refine j_aload_n B dX3_ofWhomMost_13 rfl 0 rfl ?_
      refine j_iload_n B dX3_ofWhomMost_14 rfl 3 rfl ?_
      obtain ⟨r1, hr1, h⟩ := h_bind h
      refine j_cVI (rest := []) B (tX3_thickOf (ho) hr1) cls3 ((ho).1) jt_RX3_51 wi_X3_thickOf ws_X3_thickOf rfl (by decide) (Nat.le_refl _) (Nat.le_refl _) rfl (Nat.le_of_ble_eq_true rfl) dX3_ofWhomMost_15 ?_
      refine j_istore (L' := [(4, .int r1), (0, .ref (G.1 + o)), (1, .int x1), (2, .int x2), (3, .int x3)]) B dX3_ofWhomMost_18 (by decide) rfl ?_
      refine j_iload B dX3_ofWhomMost_20 0 rfl ?_
      refine j_iload_n B dX3_ofWhomMost_22 rfl 3 rfl ?_
      refine j_icmp_le (tgt := 31) B dX3_ofWhomMost_23 (by decide) (fun c => ?_) (fun c => ?_)
      · replace h := h_pos c h
        refine j_locals [1, 2, 3, 4] rfl ?_
        exact tX3_ofWhomMost_31 B E ho ih (x1) (x2) (x3)  h
      · replace h := h_neg c h
        refine j_iload_n B dX3_ofWhomMost_26 rfl 4 rfl ?_
        refine j_istore_n (L' := [(1, .int x3), (4, .int r1), (0, .ref (G.1 + o)), (2, .int x2), (3, .int x3)]) B dX3_ofWhomMost_27 rfl (by decide) rfl ?_
        refine j_iload B dX3_ofWhomMost_28 1 rfl ?_
        refine j_istore_n (L' := [(2, .int r1), (1, .int x3), (4, .int r1), (0, .ref (G.1 + o)), (3, .int x3)]) B dX3_ofWhomMost_30 rfl (by decide) rfl ?_
        refine j_locals [3, 1, 0, 4] rfl ?_
        exact tX3_ofWhomMost_31 B E ho ih (x3) (r1) (x3)  h
def fX3_ofWhomMost (o : Nat) (vi0 : VI) : Option (Int32) := fX3_ofWhomMost_7 o vi0 FU (-2) 0 0
theorem tX3_ofWhomMost {G : GT} {sv : SV} {vi0 : VI} {vl0 : VL} {o : Nat} {r : Int32} (ho : isDust sv o) (h : fX3_ofWhomMost o vi0 = some (r)) : Call G mX3_ofWhomMost 1 0 0 [.ref (G.1 + o)] sv vi0 vl0 (QI r sv vi0 vl0) := by
  refine j_mk (by decide +kernel) (Nat.le_of_ble_eq_true rfl) (fun Γ B E => ?_)
  show J G Γ 0 0 0 [(0, .ref (G.1 + o))] [] sv vi0 vl0
  unfold fX3_ofWhomMost at h
  refine j_bipush B dX3_ofWhomMost_0 (v := (-2)) (by decide) ?_
  refine j_istore_n (L' := [(1, .int (-2)), (0, .ref (G.1 + o))]) B dX3_ofWhomMost_2 rfl (by decide) rfl ?_
  refine j_iconst B dX3_ofWhomMost_3 (v := 0) (by decide) ?_
  refine j_istore_n (L' := [(2, .int 0), (1, .int (-2)), (0, .ref (G.1 + o))]) B dX3_ofWhomMost_4 rfl (by decide) rfl ?_
  refine j_iconst B dX3_ofWhomMost_5 (v := 0) (by decide) ?_
  refine j_istore_n (L' := [(3, .int 0), (2, .int 0), (1, .int (-2)), (0, .ref (G.1 + o))]) B dX3_ofWhomMost_6 rfl (by decide) rfl ?_
  refine j_locals [3, 2, 1, 0] rfl ?_
  exact tX3_ofWhomMost_7 B E ho FU ((-2)) (0) (0)  h
def fJ7_fill_031fb_5 (x0 : Nat) (n0 : Nat) : Nat → Int32 → Int32 → Int32 → VI → Option (VI)
  | 0, _, _, _, _ => none
  | F + 1, x1, x2, x3, vi => if x3 ≤ x2 then some (vi) else if inb x2 n0 = true then fJ7_fill_031fb_5 x0 n0 F x1 (x2 + 1) x3 (j_up vi x0 x2.toNatClampNeg x1.toInt8.toInt32) else none
theorem tJ7_fill_031fb_5 {G : GT} {sv : SV} {vl0 : VL} {Γ : CT} {x0 : Nat} {n0 : Nat} {vi' : VI} (B : Base G Γ mJ7_fill_031fb 0 0 0) (E : Ends G Γ 0 0 (QV sv vi' vl0)) (h0 : Ar sv x0 12 n0) : ∀ (F : Nat) (x1 : Int32) (x2 : Int32) (x3 : Int32) (vi : VI), fJ7_fill_031fb_5 x0 n0 F x1 x2 x3 vi = some (vi') → J G Γ 0 0 5 [(0, .ref (G.1 + x0)), (1, .int x1), (2, .int x2), (3, .int x3)] [] sv vi vl0 := by
  intro F
  induction F with
  | zero =>
    intro x1 x2 x3 vi  h
    cases (show (none : Option (VI)) = some (vi') from h)
  | succ F ih =>
    intro x1 x2 x3 vi  h
    rw [fJ7_fill_031fb_5] at h
    refine j_iload_n B dJ7_fill_031fb_5 rfl 2 rfl ?_
    refine j_iload_n B dJ7_fill_031fb_6 rfl 3 rfl ?_
    refine j_icmp_ge (tgt := 20) B dJ7_fill_031fb_7 (by decide) (fun c => ?_) (fun c => ?_)
    · replace h := h_pos c h
      have e1 := Option.some.inj h
      subst e1
      exact j_vret B E rfl dJ7_fill_031fb_20 (Nat.le_refl _) (Nat.le_refl _) ⟨rfl, rfl, rfl, rfl⟩
    · replace h := h_neg c h
      refine j_aload_n B dJ7_fill_031fb_10 rfl 0 rfl ?_
      refine j_iload_n B dJ7_fill_031fb_11 rfl 2 rfl ?_
      refine j_iload_n B dJ7_fill_031fb_12 rfl 1 rfl ?_
      obtain ⟨b1, h⟩ := h_inb h
      refine j_bast B (h0) b1 dJ7_fill_031fb_13 ?_
      refine j_iinc (v := (x2 + 1)) (L' := [(2, .int (x2 + 1)), (0, .ref (G.1 + x0)), (1, .int x1), (3, .int x3)]) B dJ7_fill_031fb_14 2 rfl rfl (by decide) rfl ?_
      refine j_goto (tgt := 5) B dJ7_fill_031fb_17 (by decide) ?_
      refine j_locals [1, 2, 0, 3] rfl ?_
      exact ih (x1) ((x2 + 1)) (x3) ((j_up vi x0 x2.toNatClampNeg x1.toInt8.toInt32))  h
def fJ7_fill_031fb (x0 : Nat) (n0 : Nat) (x1 : Int32) (vi0 : VI) : Option (VI) := fJ7_fill_031fb_5 x0 n0 FU x1 0 (Int32.ofNat n0) vi0
theorem tJ7_fill_031fb {G : GT} {sv : SV} {vi0 : VI} {vl0 : VL} {x0 : Nat} {n0 : Nat} {x1 : Int32} {vi' : VI} (h0 : Ar sv x0 12 n0) (h : fJ7_fill_031fb x0 n0 x1 vi0 = some (vi')) : Call G mJ7_fill_031fb 0 0 0 [.ref (G.1 + x0), .int x1] sv vi0 vl0 (QV sv vi' vl0) := by
  refine j_mk (by decide +kernel) (Nat.le_of_ble_eq_true rfl) (fun Γ B E => ?_)
  show J G Γ 0 0 0 [(0, .ref (G.1 + x0)), (1, .int x1)] [] sv vi0 vl0
  unfold fJ7_fill_031fb at h
  refine j_iconst B dJ7_fill_031fb_0 (v := 0) (by decide) ?_
  refine j_istore_n (L' := [(2, .int 0), (0, .ref (G.1 + x0)), (1, .int x1)]) B dJ7_fill_031fb_1 rfl (by decide) rfl ?_
  refine j_aload_n B dJ7_fill_031fb_2 rfl 1 rfl ?_
  refine j_alen (v := (Int32.ofNat n0)) B (h0) (Or.inr (Or.inl rfl)) rfl dJ7_fill_031fb_3 ?_
  refine j_istore_n (L' := [(3, .int (Int32.ofNat n0)), (2, .int 0), (0, .ref (G.1 + x0)), (1, .int x1)]) B dJ7_fill_031fb_4 rfl (by decide) rfl ?_
  refine j_locals [2, 3, 1, 0] rfl ?_
  exact tJ7_fill_031fb_5 B E h0 FU (x1) (0) ((Int32.ofNat n0)) (vi0)  h
def fJ6_bitCount_0f7a4 (x0 : Int32)  : Option (Int32) := some (((((((((x0 - (((x0.toUInt32 >>> (((1) : Int32).toUInt32 &&& Int32.toUInt32 31)).toInt32) &&& 1431655765)) &&& 858993459) + ((((x0 - (((x0.toUInt32 >>> (((1) : Int32).toUInt32 &&& Int32.toUInt32 31)).toInt32) &&& 1431655765)).toUInt32 >>> (((2) : Int32).toUInt32 &&& Int32.toUInt32 31)).toInt32) &&& 858993459)) + (((((x0 - (((x0.toUInt32 >>> (((1) : Int32).toUInt32 &&& Int32.toUInt32 31)).toInt32) &&& 1431655765)) &&& 858993459) + ((((x0 - (((x0.toUInt32 >>> (((1) : Int32).toUInt32 &&& Int32.toUInt32 31)).toInt32) &&& 1431655765)).toUInt32 >>> (((2) : Int32).toUInt32 &&& Int32.toUInt32 31)).toInt32) &&& 858993459)).toUInt32 >>> (((4) : Int32).toUInt32 &&& Int32.toUInt32 31)).toInt32)) &&& 252645135) + (((((((x0 - (((x0.toUInt32 >>> (((1) : Int32).toUInt32 &&& Int32.toUInt32 31)).toInt32) &&& 1431655765)) &&& 858993459) + ((((x0 - (((x0.toUInt32 >>> (((1) : Int32).toUInt32 &&& Int32.toUInt32 31)).toInt32) &&& 1431655765)).toUInt32 >>> (((2) : Int32).toUInt32 &&& Int32.toUInt32 31)).toInt32) &&& 858993459)) + (((((x0 - (((x0.toUInt32 >>> (((1) : Int32).toUInt32 &&& Int32.toUInt32 31)).toInt32) &&& 1431655765)) &&& 858993459) + ((((x0 - (((x0.toUInt32 >>> (((1) : Int32).toUInt32 &&& Int32.toUInt32 31)).toInt32) &&& 1431655765)).toUInt32 >>> (((2) : Int32).toUInt32 &&& Int32.toUInt32 31)).toInt32) &&& 858993459)).toUInt32 >>> (((4) : Int32).toUInt32 &&& Int32.toUInt32 31)).toInt32)) &&& 252645135).toUInt32 >>> (((8) : Int32).toUInt32 &&& Int32.toUInt32 31)).toInt32)) + ((((((((x0 - (((x0.toUInt32 >>> (((1) : Int32).toUInt32 &&& Int32.toUInt32 31)).toInt32) &&& 1431655765)) &&& 858993459) + ((((x0 - (((x0.toUInt32 >>> (((1) : Int32).toUInt32 &&& Int32.toUInt32 31)).toInt32) &&& 1431655765)).toUInt32 >>> (((2) : Int32).toUInt32 &&& Int32.toUInt32 31)).toInt32) &&& 858993459)) + (((((x0 - (((x0.toUInt32 >>> (((1) : Int32).toUInt32 &&& Int32.toUInt32 31)).toInt32) &&& 1431655765)) &&& 858993459) + ((((x0 - (((x0.toUInt32 >>> (((1) : Int32).toUInt32 &&& Int32.toUInt32 31)).toInt32) &&& 1431655765)).toUInt32 >>> (((2) : Int32).toUInt32 &&& Int32.toUInt32 31)).toInt32) &&& 858993459)).toUInt32 >>> (((4) : Int32).toUInt32 &&& Int32.toUInt32 31)).toInt32)) &&& 252645135) + (((((((x0 - (((x0.toUInt32 >>> (((1) : Int32).toUInt32 &&& Int32.toUInt32 31)).toInt32) &&& 1431655765)) &&& 858993459) + ((((x0 - (((x0.toUInt32 >>> (((1) : Int32).toUInt32 &&& Int32.toUInt32 31)).toInt32) &&& 1431655765)).toUInt32 >>> (((2) : Int32).toUInt32 &&& Int32.toUInt32 31)).toInt32) &&& 858993459)) + (((((x0 - (((x0.toUInt32 >>> (((1) : Int32).toUInt32 &&& Int32.toUInt32 31)).toInt32) &&& 1431655765)) &&& 858993459) + ((((x0 - (((x0.toUInt32 >>> (((1) : Int32).toUInt32 &&& Int32.toUInt32 31)).toInt32) &&& 1431655765)).toUInt32 >>> (((2) : Int32).toUInt32 &&& Int32.toUInt32 31)).toInt32) &&& 858993459)).toUInt32 >>> (((4) : Int32).toUInt32 &&& Int32.toUInt32 31)).toInt32)) &&& 252645135).toUInt32 >>> (((8) : Int32).toUInt32 &&& Int32.toUInt32 31)).toInt32)).toUInt32 >>> (((16) : Int32).toUInt32 &&& Int32.toUInt32 31)).toInt32)) &&& 63))
theorem tJ6_bitCount_0f7a4 {G : GT} {sv : SV} {vi0 : VI} {vl0 : VL} {x0 : Int32} {r : Int32} (h : fJ6_bitCount_0f7a4 x0 = some (r)) : Call G mJ6_bitCount_0f7a4 0 0 0 [.int x0] sv vi0 vl0 (QI r sv vi0 vl0) := by
  refine j_mk (by decide +kernel) (Nat.le_of_ble_eq_true rfl) (fun Γ B E => ?_)
  show J G Γ 0 0 0 [(0, .int x0)] [] sv vi0 vl0
  unfold fJ6_bitCount_0f7a4 at h
  refine j_iload_n B dJ6_bitCount_0f7a4_0 rfl 0 rfl ?_
  refine j_iload_n B dJ6_bitCount_0f7a4_1 rfl 0 rfl ?_
  refine j_iconst B dJ6_bitCount_0f7a4_2 (v := 1) (by decide) ?_
  refine j_iushr B dJ6_bitCount_0f7a4_3 ?_
  refine j_ldcw B wk_RJ6_265 dJ6_bitCount_0f7a4_4 ?_
  refine j_iand B dJ6_bitCount_0f7a4_7 ?_
  refine j_isub B dJ6_bitCount_0f7a4_8 ?_
  refine j_istore_n (L' := [(0, .int (x0 - (((x0.toUInt32 >>> (((1) : Int32).toUInt32 &&& Int32.toUInt32 31)).toInt32) &&& 1431655765)))]) B dJ6_bitCount_0f7a4_9 rfl (by decide) rfl ?_
  refine j_iload_n B dJ6_bitCount_0f7a4_10 rfl 0 rfl ?_
  refine j_ldcw B wk_RJ6_266 dJ6_bitCount_0f7a4_11 ?_
  refine j_iand B dJ6_bitCount_0f7a4_14 ?_
  refine j_iload_n B dJ6_bitCount_0f7a4_15 rfl 0 rfl ?_
  refine j_iconst B dJ6_bitCount_0f7a4_16 (v := 2) (by decide) ?_
  refine j_iushr B dJ6_bitCount_0f7a4_17 ?_
  refine j_ldcw B wk_RJ6_266 dJ6_bitCount_0f7a4_18 ?_
  refine j_iand B dJ6_bitCount_0f7a4_21 ?_
  refine j_iadd B dJ6_bitCount_0f7a4_22 ?_
  refine j_istore_n (L' := [(0, .int (((x0 - (((x0.toUInt32 >>> (((1) : Int32).toUInt32 &&& Int32.toUInt32 31)).toInt32) &&& 1431655765)) &&& 858993459) + ((((x0 - (((x0.toUInt32 >>> (((1) : Int32).toUInt32 &&& Int32.toUInt32 31)).toInt32) &&& 1431655765)).toUInt32 >>> (((2) : Int32).toUInt32 &&& Int32.toUInt32 31)).toInt32) &&& 858993459)))]) B dJ6_bitCount_0f7a4_23 rfl (by decide) rfl ?_
  refine j_iload_n B dJ6_bitCount_0f7a4_24 rfl 0 rfl ?_
  refine j_iload_n B dJ6_bitCount_0f7a4_25 rfl 0 rfl ?_
  refine j_iconst B dJ6_bitCount_0f7a4_26 (v := 4) (by decide) ?_
  refine j_iushr B dJ6_bitCount_0f7a4_27 ?_
  refine j_iadd B dJ6_bitCount_0f7a4_28 ?_
  refine j_ldcw B wk_RJ6_267 dJ6_bitCount_0f7a4_29 ?_
  refine j_iand B dJ6_bitCount_0f7a4_32 ?_
  refine j_istore_n (L' := [(0, .int (((((x0 - (((x0.toUInt32 >>> (((1) : Int32).toUInt32 &&& Int32.toUInt32 31)).toInt32) &&& 1431655765)) &&& 858993459) + ((((x0 - (((x0.toUInt32 >>> (((1) : Int32).toUInt32 &&& Int32.toUInt32 31)).toInt32) &&& 1431655765)).toUInt32 >>> (((2) : Int32).toUInt32 &&& Int32.toUInt32 31)).toInt32) &&& 858993459)) + (((((x0 - (((x0.toUInt32 >>> (((1) : Int32).toUInt32 &&& Int32.toUInt32 31)).toInt32) &&& 1431655765)) &&& 858993459) + ((((x0 - (((x0.toUInt32 >>> (((1) : Int32).toUInt32 &&& Int32.toUInt32 31)).toInt32) &&& 1431655765)).toUInt32 >>> (((2) : Int32).toUInt32 &&& Int32.toUInt32 31)).toInt32) &&& 858993459)).toUInt32 >>> (((4) : Int32).toUInt32 &&& Int32.toUInt32 31)).toInt32)) &&& 252645135))]) B dJ6_bitCount_0f7a4_33 rfl (by decide) rfl ?_
  refine j_iload_n B dJ6_bitCount_0f7a4_34 rfl 0 rfl ?_
  refine j_iload_n B dJ6_bitCount_0f7a4_35 rfl 0 rfl ?_
  refine j_bipush B dJ6_bitCount_0f7a4_36 (v := 8) (by decide) ?_
  refine j_iushr B dJ6_bitCount_0f7a4_38 ?_
  refine j_iadd B dJ6_bitCount_0f7a4_39 ?_
  refine j_istore_n (L' := [(0, .int ((((((x0 - (((x0.toUInt32 >>> (((1) : Int32).toUInt32 &&& Int32.toUInt32 31)).toInt32) &&& 1431655765)) &&& 858993459) + ((((x0 - (((x0.toUInt32 >>> (((1) : Int32).toUInt32 &&& Int32.toUInt32 31)).toInt32) &&& 1431655765)).toUInt32 >>> (((2) : Int32).toUInt32 &&& Int32.toUInt32 31)).toInt32) &&& 858993459)) + (((((x0 - (((x0.toUInt32 >>> (((1) : Int32).toUInt32 &&& Int32.toUInt32 31)).toInt32) &&& 1431655765)) &&& 858993459) + ((((x0 - (((x0.toUInt32 >>> (((1) : Int32).toUInt32 &&& Int32.toUInt32 31)).toInt32) &&& 1431655765)).toUInt32 >>> (((2) : Int32).toUInt32 &&& Int32.toUInt32 31)).toInt32) &&& 858993459)).toUInt32 >>> (((4) : Int32).toUInt32 &&& Int32.toUInt32 31)).toInt32)) &&& 252645135) + (((((((x0 - (((x0.toUInt32 >>> (((1) : Int32).toUInt32 &&& Int32.toUInt32 31)).toInt32) &&& 1431655765)) &&& 858993459) + ((((x0 - (((x0.toUInt32 >>> (((1) : Int32).toUInt32 &&& Int32.toUInt32 31)).toInt32) &&& 1431655765)).toUInt32 >>> (((2) : Int32).toUInt32 &&& Int32.toUInt32 31)).toInt32) &&& 858993459)) + (((((x0 - (((x0.toUInt32 >>> (((1) : Int32).toUInt32 &&& Int32.toUInt32 31)).toInt32) &&& 1431655765)) &&& 858993459) + ((((x0 - (((x0.toUInt32 >>> (((1) : Int32).toUInt32 &&& Int32.toUInt32 31)).toInt32) &&& 1431655765)).toUInt32 >>> (((2) : Int32).toUInt32 &&& Int32.toUInt32 31)).toInt32) &&& 858993459)).toUInt32 >>> (((4) : Int32).toUInt32 &&& Int32.toUInt32 31)).toInt32)) &&& 252645135).toUInt32 >>> (((8) : Int32).toUInt32 &&& Int32.toUInt32 31)).toInt32)))]) B dJ6_bitCount_0f7a4_40 rfl (by decide) rfl ?_
  refine j_iload_n B dJ6_bitCount_0f7a4_41 rfl 0 rfl ?_
  refine j_iload_n B dJ6_bitCount_0f7a4_42 rfl 0 rfl ?_
  refine j_bipush B dJ6_bitCount_0f7a4_43 (v := 16) (by decide) ?_
  refine j_iushr B dJ6_bitCount_0f7a4_45 ?_
  refine j_iadd B dJ6_bitCount_0f7a4_46 ?_
  refine j_istore_n (L' := [(0, .int (((((((x0 - (((x0.toUInt32 >>> (((1) : Int32).toUInt32 &&& Int32.toUInt32 31)).toInt32) &&& 1431655765)) &&& 858993459) + ((((x0 - (((x0.toUInt32 >>> (((1) : Int32).toUInt32 &&& Int32.toUInt32 31)).toInt32) &&& 1431655765)).toUInt32 >>> (((2) : Int32).toUInt32 &&& Int32.toUInt32 31)).toInt32) &&& 858993459)) + (((((x0 - (((x0.toUInt32 >>> (((1) : Int32).toUInt32 &&& Int32.toUInt32 31)).toInt32) &&& 1431655765)) &&& 858993459) + ((((x0 - (((x0.toUInt32 >>> (((1) : Int32).toUInt32 &&& Int32.toUInt32 31)).toInt32) &&& 1431655765)).toUInt32 >>> (((2) : Int32).toUInt32 &&& Int32.toUInt32 31)).toInt32) &&& 858993459)).toUInt32 >>> (((4) : Int32).toUInt32 &&& Int32.toUInt32 31)).toInt32)) &&& 252645135) + (((((((x0 - (((x0.toUInt32 >>> (((1) : Int32).toUInt32 &&& Int32.toUInt32 31)).toInt32) &&& 1431655765)) &&& 858993459) + ((((x0 - (((x0.toUInt32 >>> (((1) : Int32).toUInt32 &&& Int32.toUInt32 31)).toInt32) &&& 1431655765)).toUInt32 >>> (((2) : Int32).toUInt32 &&& Int32.toUInt32 31)).toInt32) &&& 858993459)) + (((((x0 - (((x0.toUInt32 >>> (((1) : Int32).toUInt32 &&& Int32.toUInt32 31)).toInt32) &&& 1431655765)) &&& 858993459) + ((((x0 - (((x0.toUInt32 >>> (((1) : Int32).toUInt32 &&& Int32.toUInt32 31)).toInt32) &&& 1431655765)).toUInt32 >>> (((2) : Int32).toUInt32 &&& Int32.toUInt32 31)).toInt32) &&& 858993459)).toUInt32 >>> (((4) : Int32).toUInt32 &&& Int32.toUInt32 31)).toInt32)) &&& 252645135).toUInt32 >>> (((8) : Int32).toUInt32 &&& Int32.toUInt32 31)).toInt32)) + ((((((((x0 - (((x0.toUInt32 >>> (((1) : Int32).toUInt32 &&& Int32.toUInt32 31)).toInt32) &&& 1431655765)) &&& 858993459) + ((((x0 - (((x0.toUInt32 >>> (((1) : Int32).toUInt32 &&& Int32.toUInt32 31)).toInt32) &&& 1431655765)).toUInt32 >>> (((2) : Int32).toUInt32 &&& Int32.toUInt32 31)).toInt32) &&& 858993459)) + (((((x0 - (((x0.toUInt32 >>> (((1) : Int32).toUInt32 &&& Int32.toUInt32 31)).toInt32) &&& 1431655765)) &&& 858993459) + ((((x0 - (((x0.toUInt32 >>> (((1) : Int32).toUInt32 &&& Int32.toUInt32 31)).toInt32) &&& 1431655765)).toUInt32 >>> (((2) : Int32).toUInt32 &&& Int32.toUInt32 31)).toInt32) &&& 858993459)).toUInt32 >>> (((4) : Int32).toUInt32 &&& Int32.toUInt32 31)).toInt32)) &&& 252645135) + (((((((x0 - (((x0.toUInt32 >>> (((1) : Int32).toUInt32 &&& Int32.toUInt32 31)).toInt32) &&& 1431655765)) &&& 858993459) + ((((x0 - (((x0.toUInt32 >>> (((1) : Int32).toUInt32 &&& Int32.toUInt32 31)).toInt32) &&& 1431655765)).toUInt32 >>> (((2) : Int32).toUInt32 &&& Int32.toUInt32 31)).toInt32) &&& 858993459)) + (((((x0 - (((x0.toUInt32 >>> (((1) : Int32).toUInt32 &&& Int32.toUInt32 31)).toInt32) &&& 1431655765)) &&& 858993459) + ((((x0 - (((x0.toUInt32 >>> (((1) : Int32).toUInt32 &&& Int32.toUInt32 31)).toInt32) &&& 1431655765)).toUInt32 >>> (((2) : Int32).toUInt32 &&& Int32.toUInt32 31)).toInt32) &&& 858993459)).toUInt32 >>> (((4) : Int32).toUInt32 &&& Int32.toUInt32 31)).toInt32)) &&& 252645135).toUInt32 >>> (((8) : Int32).toUInt32 &&& Int32.toUInt32 31)).toInt32)).toUInt32 >>> (((16) : Int32).toUInt32 &&& Int32.toUInt32 31)).toInt32)))]) B dJ6_bitCount_0f7a4_47 rfl (by decide) rfl ?_
  refine j_iload_n B dJ6_bitCount_0f7a4_48 rfl 0 rfl ?_
  refine j_bipush B dJ6_bitCount_0f7a4_49 (v := 63) (by decide) ?_
  refine j_iand B dJ6_bitCount_0f7a4_51 ?_
  have e1 := Option.some.inj h
  subst e1
  exact j_iret B E rfl dJ6_bitCount_0f7a4_52 (Nat.le_refl _) (Nat.le_refl _) ⟨rfl, rfl, rfl, rfl⟩
