section JC
variable {G : GT} {Γ : CT} {M : MI} {d MC MS : Nat} {cs ss pc : Nat} {L : List (Nat × Value)} {rest : List Value} {sv : SV} {vi : VI} {vl : VL}
theorem j_copyi (B : Base G Γ M d MC MS) {o0 o1 n0 n1 index : Nat} {sp dp n : Int32} (ho0 : Ar sv o0 11 n0) (ho1 : Ar sv o1 11 n1) (w1 : Cond.methodLink M.1.cls index arraycopyName ∈ gtb) (w2 : Cond.native arraycopyName ∈ gtb) (w3 : Cond.static arraycopyName ∈ gtb) (w4 : Cond.initialized "java/lang/System" ∈ gtb)
    (h1 : ¬ sp < 0) (h2 : ¬ dp < 0) (h3 : ¬ n < 0) (h4 : sp.toNatClampNeg + n.toNatClampNeg ≤ n0) (h5 : dp.toNatClampNeg + n.toNatClampNeg ≤ n1) (hd : 1 ≤ d) (hrest : (rest.map fun v => v.category).sum ≤ 8) (hdg : decode M.2.1 pc = .ok (.invokestatic index, 3))
    (kk : J G Γ cs ss (pc + 3) L rest sv (j_row vi o1 (va_cpy (vi o0) (vi o1) sp.toNatClampNeg dp.toNatClampNeg n.toNatClampNeg)) vl) : J G Γ cs ss pc L (.int n :: .int dp :: .ref (G.1 + o1) :: .int sp :: .ref (G.1 + o0) :: rest) sv vi vl := by
  obtain ⟨p, e, R, s, m, args, below, meth, c, Qw⟩ := Γ
  intro H locs ls hz hP hS hl9
  obtain ⟨hx, hb, hr, hml, hown, hts, hlk, hnm9, hR, hK, hst⟩ := B
  have nn : ∀ z : Int32, ¬ z < 0 → z.toInt = (z.toNatClampNeg : Int) := by
    intro z hz
    have hz0 : (0 : Int) ≤ z.toInt := by
      have := Int32.not_lt.mp hz
      simpa using Int32.le_iff_toInt_le.mp this
    show z.toInt = ((z.toInt.toNat : Nat) : Int)
    omega
  have ha0 : (j_wl G.1 G.2.2.1 sv vi vl)[o0]? = some (G.1 + o0, .inl (G.2.2.1 11, n0, .inl (vi o0))) := (j_wl_at ho0.1).trans (by rw [j_en_i ho0 (by decide) (by decide)])
  have ha1 : (j_wl G.1 G.2.2.1 sv vi vl)[o1]? = some (G.1 + o1, .inl (G.2.2.1 11, n1, .inl (vi o1))) := (j_wl_at ho1.1).trans (by rw [j_en_i ho1 (by decide) (by decide)])
  have hc0 : H[G.1 + o0]? = some (vp_cell (G.2.2.1 11) (n0, .inl (vi o0))) := hP o0 _ ha0
  have hc1 : H[G.1 + o1]? = some (vp_cell (G.2.2.1 11) (n1, .inl (vi o1))) := hP o1 _ ha1
  have erow : j_row vi o1 (va_cpy (vi o0) (vi o1) sp.toNatClampNeg dp.toNatClampNeg n.toNatClampNeg) o1 = (va_cpy (vi o0) (vi o1) sp.toNatClampNeg dp.toNatClampNeg n.toNatClampNeg) := by funext j; exact if_pos rfl
  have hrow := hK.2 0 (G.2.2.1 11, .int) rfl
  obtain ⟨-, k0, hk0, cm0, hkk0⟩ := hrow.1 n0 (fun j => .int (vi o0 j))
  obtain ⟨-, k1, hk1, cm1, hkk1⟩ := hrow.1 n1 (fun j => .int (vi o1 j))
  intro T hT X
  obtain ⟨vm', X', step⟩ := X.arraycopy hx hown (hts _ w1) (hts _ w2) (hts _ w3) (hts _ w4) (src := G.1 + o0) (dst := G.1 + o1) (cs := (vp_cell (G.2.2.1 11) (n0, .inl (vi o0)))) (cd := (vp_cell (G.2.2.1 11) (n1, .inl (vi o1)))) (srcPos := sp) (destPos := dp) (n := n) (by rw [hT]; exact hc0) (by rw [hT]; exact hc1)
    (fun _ h => by cases h) (fun _ h => by cases h) (fun h => by cases h) (fun h => by cases h) hk0 hk1 hkk0 hkk1 (by simp [refKind]) h1 h2 h3
    (by rw [nn sp h1, nn n h3]; show ¬ _ > ((arrV (G.2.2.1 11) n0 (fun j => .int (vi o0 j))).slots.size : Int); rw [arrV_size]; omega)
    (by rw [nn dp h2, nn n h3]; show ¬ _ > ((arrV (G.2.2.1 11) n1 (fun j => .int (vi o1 j))).slots.size : Int); rw [arrV_size]; omega)
    (fun vm₁ _ i hi => by
      have e : (vp_cell (G.2.2.1 11) (n0, .inl (vi o0))).slots.getD (sp.toNatClampNeg + i) .null = .int (vi o0 (sp.toNatClampNeg + i)) := by
        show (arrV (G.2.2.1 11) n0 (fun j => .int (vi o0 j))).slots.getD _ _ = _
        rw [Array.getD_eq_getD_getElem?, arrV_read _ _ (by omega)]
        rfl
      refine ⟨?_, ?_⟩
      · rw [e]
        rfl
      · rw [e]
        exact trivial)
    (g := F0 m pc ls (.int n :: .int dp :: .ref (G.1 + o1) :: .int sp :: .ref (G.1 + o0) :: rest)) rfl hl9.1 (rest := rest) rfl (by rw [hb]; exact hdg) (by have := hR.1; omega) (by
      have h7 := hR.2.1
      have h8 : nativeFrameWords "java/lang/System" "arraycopy" 5 ≤ 40 := by decide +kernel
      show 2 * 0 + _ + _ ≤ _
      omega)
  have e1 : copied (vp_cell (G.2.2.1 11) (n0, .inl (vi o0))) (vp_cell (G.2.2.1 11) (n1, .inl (vi o1))) sp dp n = (vp_cell (G.2.2.1 11) (n1, .inl (va_cpy (vi o0) (vi o1) sp.toNatClampNeg dp.toNatClampNeg n.toNatClampNeg))) := va_copied (fun z => .int z) (G.2.2.1 11) (G.2.2.1 11) (vi o0) (vi o1) h4
  rw [e1] at X' step
  have hl : G.1 + o1 < H.size := (Array.getElem?_eq_some_iff.mp hc1).1
  have hheap : ((T.setVm vm').setCell (G.1 + o1) (vp_cell (G.2.2.1 11) (n1, .inl (va_cpy (vi o0) (vi o1) sp.toNatClampNeg dp.toNatClampNeg n.toNatClampNeg)))).heap = H.setIfInBounds (G.1 + o1) (vp_cell (G.2.2.1 11) (n1, .inl (va_cpy (vi o0) (vi o1) sp.toNatClampNeg dp.toNatClampNeg n.toNatClampNeg))) := by rw [← hT]; rfl
  have oq : ∀ q : Nat, q ≠ G.1 + o1 → (H.setIfInBounds (G.1 + o1) (vp_cell (G.2.2.1 11) (n1, .inl (va_cpy (vi o0) (vi o1) sp.toNatClampNeg dp.toNatClampNeg n.toNatClampNeg))))[q]? = H[q]? := fun q hq => by simp [Array.getElem?_setIfInBounds, Ne.symm hq]
  obtain ⟨t, a1, b1⟩ := kk _ _ ls (by simp; exact hz) (j_set hP rfl (fun q hq => j_en_eq rfl rfl (fun _ => rfl) (fun i => by simp [j_row, hq]) (fun i => by simp [j_row, hq])) (by
      rw [j_en_i ho1 (by decide) (by decide)]
      show (H.setIfInBounds (G.1 + o1) _)[G.1 + o1]? = some (vp_cell _ _)
      rw [erow]
      simp [Array.getElem?_setIfInBounds, hl]) oq) ⟨by simp; exact hS.1, fun q g1 g2 => by
      rw [oq q (fun e => g2 (by rw [e]; show G.1 ≤ G.1 + o1; omega))]
      exact hS.2.1 q g1 g2, fun q hq => by
      rcases List.mem_append.mp hq with h | h
      · exact hS.2.2 q h
      · obtain ⟨z, -, hz⟩ := List.mem_map.mp h
        rw [← hz]
        show G.1 ≤ G.1 + o1
        omega⟩ hl9 _ hheap X'
  exact ⟨t, step t a1, b1⟩
theorem j_copyl (B : Base G Γ M d MC MS) {o0 o1 n0 n1 index : Nat} {sp dp n : Int32} (ho0 : Ar sv o0 20 n0) (ho1 : Ar sv o1 20 n1) (w1 : Cond.methodLink M.1.cls index arraycopyName ∈ gtb) (w2 : Cond.native arraycopyName ∈ gtb) (w3 : Cond.static arraycopyName ∈ gtb) (w4 : Cond.initialized "java/lang/System" ∈ gtb)
    (h1 : ¬ sp < 0) (h2 : ¬ dp < 0) (h3 : ¬ n < 0) (h4 : sp.toNatClampNeg + n.toNatClampNeg ≤ n0) (h5 : dp.toNatClampNeg + n.toNatClampNeg ≤ n1) (hd : 1 ≤ d) (hrest : (rest.map fun v => v.category).sum ≤ 8) (hdg : decode M.2.1 pc = .ok (.invokestatic index, 3))
    (kk : J G Γ cs ss (pc + 3) L rest sv vi (j_row vl o1 (va_cpy (vl o0) (vl o1) sp.toNatClampNeg dp.toNatClampNeg n.toNatClampNeg))) : J G Γ cs ss pc L (.int n :: .int dp :: .ref (G.1 + o1) :: .int sp :: .ref (G.1 + o0) :: rest) sv vi vl := by
  obtain ⟨p, e, R, s, m, args, below, meth, c, Qw⟩ := Γ
  intro H locs ls hz hP hS hl9
  obtain ⟨hx, hb, hr, hml, hown, hts, hlk, hnm9, hR, hK, hst⟩ := B
  have nn : ∀ z : Int32, ¬ z < 0 → z.toInt = (z.toNatClampNeg : Int) := by
    intro z hz
    have hz0 : (0 : Int) ≤ z.toInt := by
      have := Int32.not_lt.mp hz
      simpa using Int32.le_iff_toInt_le.mp this
    show z.toInt = ((z.toInt.toNat : Nat) : Int)
    omega
  have ha0 : (j_wl G.1 G.2.2.1 sv vi vl)[o0]? = some (G.1 + o0, .inl (G.2.2.1 20, n0, .inr (.inl (vl o0)))) := (j_wl_at ho0.1).trans (by rw [j_en_l ho0])
  have ha1 : (j_wl G.1 G.2.2.1 sv vi vl)[o1]? = some (G.1 + o1, .inl (G.2.2.1 20, n1, .inr (.inl (vl o1)))) := (j_wl_at ho1.1).trans (by rw [j_en_l ho1])
  have hc0 : H[G.1 + o0]? = some (vp_cell (G.2.2.1 20) (n0, .inr (.inl (vl o0)))) := hP o0 _ ha0
  have hc1 : H[G.1 + o1]? = some (vp_cell (G.2.2.1 20) (n1, .inr (.inl (vl o1)))) := hP o1 _ ha1
  have erow : j_row vl o1 (va_cpy (vl o0) (vl o1) sp.toNatClampNeg dp.toNatClampNeg n.toNatClampNeg) o1 = (va_cpy (vl o0) (vl o1) sp.toNatClampNeg dp.toNatClampNeg n.toNatClampNeg) := by funext j; exact if_pos rfl
  have hrow := hK.2 3 (G.2.2.1 20, .long) rfl
  obtain ⟨-, k0, hk0, cm0, hkk0⟩ := hrow.1 n0 (fun j => .long (vl o0 j))
  obtain ⟨-, k1, hk1, cm1, hkk1⟩ := hrow.1 n1 (fun j => .long (vl o1 j))
  intro T hT X
  obtain ⟨vm', X', step⟩ := X.arraycopy hx hown (hts _ w1) (hts _ w2) (hts _ w3) (hts _ w4) (src := G.1 + o0) (dst := G.1 + o1) (cs := (vp_cell (G.2.2.1 20) (n0, .inr (.inl (vl o0))))) (cd := (vp_cell (G.2.2.1 20) (n1, .inr (.inl (vl o1))))) (srcPos := sp) (destPos := dp) (n := n) (by rw [hT]; exact hc0) (by rw [hT]; exact hc1)
    (fun _ h => by cases h) (fun _ h => by cases h) (fun h => by cases h) (fun h => by cases h) hk0 hk1 hkk0 hkk1 (by simp [refKind]) h1 h2 h3
    (by rw [nn sp h1, nn n h3]; show ¬ _ > ((arrV (G.2.2.1 20) n0 (fun j => .long (vl o0 j))).slots.size : Int); rw [arrV_size]; omega)
    (by rw [nn dp h2, nn n h3]; show ¬ _ > ((arrV (G.2.2.1 20) n1 (fun j => .long (vl o1 j))).slots.size : Int); rw [arrV_size]; omega)
    (fun vm₁ _ i hi => by
      have e : (vp_cell (G.2.2.1 20) (n0, .inr (.inl (vl o0)))).slots.getD (sp.toNatClampNeg + i) .null = .long (vl o0 (sp.toNatClampNeg + i)) := by
        show (arrV (G.2.2.1 20) n0 (fun j => .long (vl o0 j))).slots.getD _ _ = _
        rw [Array.getD_eq_getD_getElem?, arrV_read _ _ (by omega)]
        rfl
      refine ⟨?_, ?_⟩
      · rw [e]
        rfl
      · rw [e]
        exact trivial)
    (g := F0 m pc ls (.int n :: .int dp :: .ref (G.1 + o1) :: .int sp :: .ref (G.1 + o0) :: rest)) rfl hl9.1 (rest := rest) rfl (by rw [hb]; exact hdg) (by have := hR.1; omega) (by
      have h7 := hR.2.1
      have h8 : nativeFrameWords "java/lang/System" "arraycopy" 5 ≤ 40 := by decide +kernel
      show 2 * 0 + _ + _ ≤ _
      omega)
  have e1 : copied (vp_cell (G.2.2.1 20) (n0, .inr (.inl (vl o0)))) (vp_cell (G.2.2.1 20) (n1, .inr (.inl (vl o1)))) sp dp n = (vp_cell (G.2.2.1 20) (n1, .inr (.inl (va_cpy (vl o0) (vl o1) sp.toNatClampNeg dp.toNatClampNeg n.toNatClampNeg)))) := va_copied (fun z => .long z) (G.2.2.1 20) (G.2.2.1 20) (vl o0) (vl o1) h4
  rw [e1] at X' step
  have hl : G.1 + o1 < H.size := (Array.getElem?_eq_some_iff.mp hc1).1
  have hheap : ((T.setVm vm').setCell (G.1 + o1) (vp_cell (G.2.2.1 20) (n1, .inr (.inl (va_cpy (vl o0) (vl o1) sp.toNatClampNeg dp.toNatClampNeg n.toNatClampNeg))))).heap = H.setIfInBounds (G.1 + o1) (vp_cell (G.2.2.1 20) (n1, .inr (.inl (va_cpy (vl o0) (vl o1) sp.toNatClampNeg dp.toNatClampNeg n.toNatClampNeg)))) := by rw [← hT]; rfl
  have oq : ∀ q : Nat, q ≠ G.1 + o1 → (H.setIfInBounds (G.1 + o1) (vp_cell (G.2.2.1 20) (n1, .inr (.inl (va_cpy (vl o0) (vl o1) sp.toNatClampNeg dp.toNatClampNeg n.toNatClampNeg)))))[q]? = H[q]? := fun q hq => by simp [Array.getElem?_setIfInBounds, Ne.symm hq]
  obtain ⟨t, a1, b1⟩ := kk _ _ ls (by simp; exact hz) (j_set hP rfl (fun q hq => j_en_eq rfl rfl (fun _ => rfl) (fun i => by simp [j_row, hq]) (fun i => by simp [j_row, hq])) (by
      rw [j_en_l ho1]
      show (H.setIfInBounds (G.1 + o1) _)[G.1 + o1]? = some (vp_cell _ _)
      rw [erow]
      simp [Array.getElem?_setIfInBounds, hl]) oq) ⟨by simp; exact hS.1, fun q g1 g2 => by
      rw [oq q (fun e => g2 (by rw [e]; show G.1 ≤ G.1 + o1; omega))]
      exact hS.2.1 q g1 g2, fun q hq => by
      rcases List.mem_append.mp hq with h | h
      · exact hS.2.2 q h
      · obtain ⟨z, -, hz⟩ := List.mem_map.mp h
        rw [← hz]
        show G.1 ≤ G.1 + o1
        omega⟩ hl9 _ hheap X'
  exact ⟨t, step t a1, b1⟩
theorem j_mmax (B : Base G Γ M d MC MS) {index : Nat} {x y : Int32} (w1 : Cond.methodLink M.1.cls index Lib.Math.max.name ∈ gtb) (w2 : Cond.static Lib.Math.max.name ∈ gtb) (w3 : Cond.initialized "java/lang/Math" ∈ gtb) (w4 : Cond.code Lib.Math.max.name Lib.Math.max.code 2 (some .int) ∈ gtb) (hd : 1 ≤ d) (hcs : cs ≤ MC) (hss : ss ≤ MS) (hrest : (rest.map fun v => v.category).sum ≤ 8) (hdg : decode M.2.1 pc = .ok (.invokestatic index, 3))
    (kk : J G Γ cs ss (pc + 3) L (.int (if x < y then y else x) :: rest) sv vi vl) : J G Γ cs ss pc L (.int y :: .int x :: rest) sv vi vl := by
  obtain ⟨p, e, R, s, m, args, below, meth, c, Qw⟩ := Γ
  intro H locs ls hz hP hS hl9
  obtain ⟨hx, hb, hr, hml, hown, hts, hlk, hnm9, hR, hK, hst⟩ := B
  exact va_mmax hx hb hl9.1.symm hown (hts _ w1) (hts _ w2) (hts _ w3) (hts _ w4) (by have := hR.1; omega) (by have := hR.2.1; omega) (Nat.le_trans hcs hR.2.2.1) (Nat.le_trans hss hR.2.2.2) hdg (kk H locs ls hz hP hS hl9)
theorem j_mmin (B : Base G Γ M d MC MS) {index : Nat} {x y : Int32} (w1 : Cond.methodLink M.1.cls index Lib.Math.min.name ∈ gtb) (w2 : Cond.static Lib.Math.min.name ∈ gtb) (w3 : Cond.initialized "java/lang/Math" ∈ gtb) (w4 : Cond.code Lib.Math.min.name Lib.Math.min.code 2 (some .int) ∈ gtb) (hd : 1 ≤ d) (hcs : cs ≤ MC) (hss : ss ≤ MS) (hrest : (rest.map fun v => v.category).sum ≤ 8) (hdg : decode M.2.1 pc = .ok (.invokestatic index, 3))
    (kk : J G Γ cs ss (pc + 3) L (.int (if y < x then y else x) :: rest) sv vi vl) : J G Γ cs ss pc L (.int y :: .int x :: rest) sv vi vl := by
  obtain ⟨p, e, R, s, m, args, below, meth, c, Qw⟩ := Γ
  intro H locs ls hz hP hS hl9
  obtain ⟨hx, hb, hr, hml, hown, hts, hlk, hnm9, hR, hK, hst⟩ := B
  exact va_mmin hx hb hl9.1.symm hown (hts _ w1) (hts _ w2) (hts _ w3) (hts _ w4) (by have := hR.1; omega) (by have := hR.2.1; omega) (Nat.le_trans hcs hR.2.2.1) (Nat.le_trans hss hR.2.2.2) hdg (kk H locs ls hz hP hS hl9)
end JC
