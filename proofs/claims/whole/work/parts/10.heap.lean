/-! RULES OF THE HEAP -/
theorem j_en_o {z : Nat} {aC : Nat → ClassId} {sv : SV} {vi : VI} {vl : VL} {o ci : Nat} (h : sv.2.1 o = ci) (hc : ci < 11) : j_en z aC sv vi vl o = .inr (ci, j_fs z sv vi ci o) := by
  simp only [j_en, h, if_pos hc]
theorem j_en_i {z : Nat} {aC : Nat → ClassId} {sv : SV} {vi : VI} {vl : VL} {o k N : Nat} (h : Ar sv o k N) (h1 : ¬ k < 11) (h2 : k < 20) : j_en z aC sv vi vl o = .inl (aC k, N, .inl (vi o)) := by
  obtain ⟨-, hk, hN⟩ := h
  simp only [j_en, hk, if_neg h1, if_pos h2, hN]
theorem j_en_l {z : Nat} {aC : Nat → ClassId} {sv : SV} {vi : VI} {vl : VL} {o N : Nat} (h : Ar sv o 20 N) : j_en z aC sv vi vl o = .inl (aC 20, N, .inr (.inl (vl o))) := by
  obtain ⟨-, hk, hN⟩ := h
  simp [j_en, hk, hN]
theorem j_en_q {z : Nat} {aC : Nat → ClassId} {sv : SV} {vi : VI} {vl : VL} {o k N : Nat} (h : Ar sv o k N) (h1 : 20 < k) : j_en z aC sv vi vl o = .inl (aC k, N, .inr (.inr (.inr (.inr (fun i => j_op z (sv.2.2.2 o i)))))) := by
  obtain ⟨-, hk, hN⟩ := h
  simp only [j_en, hk, if_neg (show ¬ k < 11 by omega), if_neg (show ¬ k < 20 by omega), if_neg (show ¬ k = 20 by omega), hN]
theorem j_en_eq {z : Nat} {aC : Nat → ClassId} {sv sv' : SV} {vi vi' : VI} {vl vl' : VL} {o : Nat} (h1 : sv'.2.1 o = sv.2.1 o) (h2 : sv'.2.2.1 o = sv.2.2.1 o) (h3 : ∀ i, sv'.2.2.2 o i = sv.2.2.2 o i) (h4 : ∀ i, vi' o i = vi o i) (h5 : ∀ i, vl' o i = vl o i) : j_en z aC sv' vi' vl' o = j_en z aC sv vi vl o := by
  have e3 : sv'.2.2.2 o = sv.2.2.2 o := funext h3
  have e4 : vi' o = vi o := funext h4
  have e5 : vl' o = vl o := funext h5
  have ef : ∀ k, j_fs z sv' vi' k o = j_fs z sv vi k o := by
    intro k
    unfold j_fs
    congr 1
    funext i
    simp only [j_fv, e3, e4]
  simp only [j_en, h1, h2, e3, e4, e5, ef]
/-- what the tables say of a class of ours -/
def j_cls (ci : Nat) (C : String) (T : u_T) (N : Nat) (ty0 : Nat → FieldType) : Prop := ci < 11 ∧ jcl[ci]? = some (C, T, N) ∧ (∀ w ∈ u_ws C T N, w ∈ gtb) ∧ (∀ k, k < N → parseFieldDescriptor (T k).2.2.1 = some (ty0 k)) ∧ (∀ a, a < N → ∀ b, b < N → a ≠ b → (T a).2.1 ≠ (T b).2.1)
theorem j_nf_of {ci : Nat} {C : String} {T : u_T} {N : Nat} {ty0 : Nat → FieldType} (h : j_cls ci C T N ty0) : j_nf ci = N := by
  obtain ⟨-, h, -⟩ := h
  simp only [j_nf, h]
theorem j_fs_at {z : Nat} {sv : SV} {vi : VI} {o ci k : Nat} (h : k < j_nf ci) : (j_fs z sv vi ci o)[k]? = some (j_fv z sv vi ci o k) := by
  simp [j_fs, h]
theorem j_fs_V {z : Nat} {sv : SV} {vi : VI} {o ci k : Nat} (h : k < j_nf ci) : vp_V (j_fs z sv vi ci o) k = j_fv z sv vi ci o k := by
  show (j_fs z sv vi ci o).getD k .null = _
  rw [List.getD_eq_getElem?_getD, j_fs_at h]
  rfl
section JH
variable {G : GT} {Γ : CT} {M : MI} {d MC MS : Nat} {cs ss pc : Nat} {L : List (Nat × Value)} {rest : List Value} {sv : SV} {vi : VI} {vl : VL}
theorem j_getv (B : Base G Γ M d MC MS) {o ci k index N : Nat} {C : String} {T : u_T} {ty0 : Nat → FieldType} (hc : j_cls ci C T N ty0) (ho : Ob sv o ci) (hk : k < N) (hd : (T k).1 = C) (hl : Cond.fieldLink M.1.cls index C (T k).2.1 (T k).2.2.1 ∈ gtb) (hdg : decode M.2.1 pc = .ok (.getfield index, 3))
    (kk : J G Γ cs ss (pc + 3) L (j_fv G.1 sv vi ci o k :: rest) sv vi vl) : J G Γ cs ss pc L (.ref (G.1 + o) :: rest) sv vi vl := by
  obtain ⟨p, e, R, s, m, args, below, meth, c, Qw⟩ := Γ
  intro H locs ls hz hP hS hl9
  obtain ⟨hx, hb, hr, hml, hown, hts, hlk, hnm9, hR, hK, hst⟩ := B
  refine va_get (D := G.2.1) (ci := ci) (v := j_fv G.1 sv vi ci o k) hx hb hts hc.2.2.1 hown hK hP o ((j_wl_at ho.1).trans (by rw [j_en_o ho.2 hc.1])) hc.2.1 k hk (hts _ hl) (fun x h => by rw [hd] at h; exact h) (j_fs_at (by rw [j_nf_of hc]; exact hk)) hdg ?_
  exact kk H locs ls hz hP hS hl9
/-- an int's field -/
theorem j_geti (B : Base G Γ M d MC MS) {o ci k index N : Nat} {C : String} {T : u_T} {ty0 : Nat → FieldType} (hc : j_cls ci C T N ty0) (ho : Ob sv o ci) (hk : k < N) (hd : (T k).1 = C) (hi : j_isr ci k = false) (hl : Cond.fieldLink M.1.cls index C (T k).2.1 (T k).2.2.1 ∈ gtb) (hdg : decode M.2.1 pc = .ok (.getfield index, 3))
    (kk : J G Γ cs ss (pc + 3) L (.int (vi o k) :: rest) sv vi vl) : J G Γ cs ss pc L (.ref (G.1 + o) :: rest) sv vi vl := by
  refine j_getv B hc ho hk hd hl hdg ?_
  simp only [j_fv, hi]
  exact kk
/-- a reference's field -/
theorem j_getr (B : Base G Γ M d MC MS) {o ci k index N q : Nat} {C : String} {T : u_T} {ty0 : Nat → FieldType} (hc : j_cls ci C T N ty0) (ho : Ob sv o ci) (hk : k < N) (hd : (T k).1 = C) (hi : j_isr ci k = true) (hl : Cond.fieldLink M.1.cls index C (T k).2.1 (T k).2.2.1 ∈ gtb) (hv : sv.2.2.2 o k = q + 1) (hdg : decode M.2.1 pc = .ok (.getfield index, 3))
    (kk : J G Γ cs ss (pc + 3) L (.ref (G.1 + q) :: rest) sv vi vl) : J G Γ cs ss pc L (.ref (G.1 + o) :: rest) sv vi vl := by
  refine j_getv B hc ho hk hd hl hdg ?_
  simp only [j_fv, hi, if_true, hv, j_op, va_rf]
  exact kk
theorem j_putv (B : Base G Γ M d MC MS) {o ci k index N : Nat} {C : String} {T : u_T} {ty0 : Nat → FieldType} (hc : j_cls ci C T N ty0) (ho : Ob sv o ci) (hk : k < N) (hd : (T k).1 = C) (hl : Cond.fieldLink M.1.cls index C (T k).2.1 (T k).2.2.1 ∈ gtb) (hfin : (T k).2.2.2 = false ∨ ((T k).2.2.2 = true ∧ M.1.name = "<init>" ∧ C = M.1.cls)) {v : Value} (hn : narrow (ty0 k) v = v) (hfit : fits (ty0 k) v = true) (hdg : decode M.2.1 pc = .ok (.putfield index, 3))
    {sv' : SV} {vi' : VI} {vl' : VL} (g1 : sv'.1 = sv.1) (g2 : ∀ q, q ≠ o → j_en G.1 G.2.2.1 sv' vi' vl' q = j_en G.1 G.2.2.1 sv vi vl q) (g3 : sv'.2.1 o = ci) (g4 : ∀ j, j_fv G.1 sv' vi' ci o j = if j = k then v else j_fv G.1 sv vi ci o j)
    (kk : J G Γ cs ss (pc + 3) L rest sv' vi' vl') : J G Γ cs ss pc L (v :: .ref (G.1 + o) :: rest) sv vi vl := by
  obtain ⟨p, e, R, s, m, args, below, meth, c, Qw⟩ := Γ
  intro H locs ls hz hP hS hl9
  obtain ⟨hx, hb, hr, hml, hown, hts, hlk, hnm9, hR, hK, hst⟩ := B
  obtain ⟨hlt, hcl, hin, hty, hnm⟩ := id hc
  have hap := va_apart (own := M.1.cls) hts hin ty0 hty hnm hK hcl
  have he : (j_wl G.1 G.2.2.1 sv vi vl)[o]? = some (G.1 + o, .inr (ci, j_fs G.1 sv vi ci o)) := (j_wl_at ho.1).trans (by rw [j_en_o ho.2 hlt])
  obtain ⟨r, h1, cell, q1, q2, q3, q4⟩ := hP o _ he
  have hr : r = (C, T, N) := Option.some.inj (h1.symm.trans hcl)
  subst hr
  obtain ⟨hSl, hfc, kC, hkC, hkind⟩ := hK.1 ci _ hcl
  obtain ⟨cf, kf, fi, f, hi, hsl⟩ := hSl k hk
  have hlay := hts _ (hin _ (u_in_lay hk))
  have hst := (u_facts hfc hkC (u_lays hts hin hk) hi).1
  have hsame : s.fieldFound? C (T k).2.1 (T k).2.2.1 = some (cf, kf, fi, f) := by rw [hd] at hi; exact hi
  have fin : ∀ (H' : Heap) (locs1 : List Loc), H'[G.1 + o]? = some (cell.setSlot f.slot v) → H'.size = H.size → (∀ q, q ≠ G.1 + o → H'[q]? = H[q]?) → va_S (fun q => G.1 ≤ q) s.heap H' locs1 → W p G.2.2.2.2.2 e R s m args below meth c H' locs1 cs ss Qw (F0 m (pc + 3) ls rest) := by
    intro H' locs1 e1 e2 e3 e4
    rw [hsl] at e1
    refine kk H' locs1 ls (by rw [e2, hz, g1]) (j_set hP g1 g2 ?_ e3) e4 hl9
    rw [j_en_o g3 hlt]
    refine ⟨_, hcl, t_OB.to (V := updV (vp_V (j_fs G.1 sv vi ci o)) k v) ⟨_, e1, q2, q3, t_set q4 hap hk v⟩ (fun j hj => ?_)⟩
    have hj' : j < j_nf ci := by rw [j_nf_of hc]; exact hj
    rw [j_fs_V hj', g4 j]
    by_cases hjk : j = k
    · simp [updV, hjk]
    · simp only [updV, if_neg hjk, j_fs_V hj']
  rcases hfin with hfin | ⟨hfin, hin2, hdecl⟩
  · unfold u_lay at hlay
    rw [if_neg (by rw [hfin]; decide)] at hlay
    have h6 := u_store hfc hkC hkind hlay hi (hty k hk) hn hfit
    refine W.putK hx hb (f := f) ⟨hown, hts _ hl, ⟨_, _, _, hsame⟩, hst⟩ (by rw [q2]; exact h6) q1 q3 (by rw [hsl]; exact k2_hasslot (q4 k hk)) rfl rfl hdg fun H' e1 e2 e3 => ?_
    exact fin H' _ e1 e2 e3 (hS.put e2 e3 (by show G.1 ≤ G.1 + o; omega))
  · unfold u_lay at hlay
    rw [if_pos hfin] at hlay
    have hcf : m.cls = cf := by
      obtain ⟨_, _, c', _, _, _, -, -, hf', -, -, -, hown2, -⟩ := Cond.laysFinal_spec hlay
      have e1 : c' = cf := by have := hi.symm.trans hf'; simp at this; exact this.1.symm
      rw [hd, hdecl] at hown2
      rw [← e1]; exact Option.some.inj (hown.symm.trans hown2)
    have h6 := u_fits hfc hkC hkind (Or.inr hlay) hi (hty k hk) hn hfit
    refine W.putFinK hx hb hown (hts _ hl) hsame hst hcf (by rw [hnm9]; exact hin2) (by rw [q2]; exact h6) q1 q3 (by rw [hsl]; exact k2_hasslot (q4 k hk)) rfl rfl hdg fun H' e1 e2 e3 => ?_
    exact fin H' _ e1 e2 e3 (hS.put e2 e3 (by show G.1 ≤ G.1 + o; omega))
/-- an int's field (not a boolean's) -/
theorem j_puti (B : Base G Γ M d MC MS) {o ci k index N : Nat} {C : String} {T : u_T} {ty0 : Nat → FieldType} (hc : j_cls ci C T N ty0) (ho : Ob sv o ci) (hk : k < N) (hd : (T k).1 = C) (hi : j_isr ci k = false) (hl : Cond.fieldLink M.1.cls index C (T k).2.1 (T k).2.2.1 ∈ gtb) (hfin : (T k).2.2.2 = false) (hty : ty0 k = .int) {x : Int32} (hdg : decode M.2.1 pc = .ok (.putfield index, 3))
    (kk : J G Γ cs ss (pc + 3) L rest sv (j_up vi o k x) vl) : J G Γ cs ss pc L (.int x :: .ref (G.1 + o) :: rest) sv vi vl := by
  refine j_putv B hc ho hk hd hl (Or.inl hfin) (by rw [hty]; rfl) (by rw [hty]; rfl) hdg rfl (fun q hq => j_en_eq rfl rfl (fun _ => rfl) (fun i => by simp [j_up, hq]) (fun _ => rfl)) ho.2 (fun j => ?_) kk
  by_cases hj : j = k
  · subst hj
    simp [j_fv, hi, j_up]
  · simp [j_fv, j_up, hj]
/-- a boolean's field: 0 or 1 -/
theorem j_putz (B : Base G Γ M d MC MS) {o ci k index N : Nat} {C : String} {T : u_T} {ty0 : Nat → FieldType} (hc : j_cls ci C T N ty0) (ho : Ob sv o ci) (hk : k < N) (hd : (T k).1 = C) (hi : j_isr ci k = false) (hl : Cond.fieldLink M.1.cls index C (T k).2.1 (T k).2.2.1 ∈ gtb) (hfin : (T k).2.2.2 = false) (hty : ty0 k = .boolean) {x : Int32} (hx : x = 0 ∨ x = 1) (hdg : decode M.2.1 pc = .ok (.putfield index, 3))
    (kk : J G Γ cs ss (pc + 3) L rest sv (j_up vi o k x) vl) : J G Γ cs ss pc L (.int x :: .ref (G.1 + o) :: rest) sv vi vl := by
  refine j_putv B hc ho hk hd hl (Or.inl hfin) (by rw [hty]; rcases hx with rfl | rfl <;> rfl) (by rw [hty]; rcases hx with rfl | rfl <;> rfl) hdg rfl (fun q hq => j_en_eq rfl rfl (fun _ => rfl) (fun i => by simp [j_up, hq]) (fun _ => rfl)) ho.2 (fun j => ?_) kk
  by_cases hj : j = k
  · subst hj
    simp [j_fv, hi, j_up]
  · simp [j_fv, j_up, hj]
abbrev j_svr (sv : SV) (o k r : Nat) : SV := (sv.1, sv.2.1, sv.2.2.1, j_up sv.2.2.2 o k r)
/-- a reference's field -/
theorem j_putr (B : Base G Γ M d MC MS) {o ci k index N q : Nat} {C : String} {T : u_T} {ty0 : Nat → FieldType} (hc : j_cls ci C T N ty0) (ho : Ob sv o ci) (hk : k < N) (hd : (T k).1 = C) (hi : j_isr ci k = true) (hl : Cond.fieldLink M.1.cls index C (T k).2.1 (T k).2.2.1 ∈ gtb) (hfin : (T k).2.2.2 = false ∨ ((T k).2.2.2 = true ∧ M.1.name = "<init>" ∧ C = M.1.cls)) (hty : (∃ n, ty0 k = .object n) ∨ ∃ t, ty0 k = .array t) (hdg : decode M.2.1 pc = .ok (.putfield index, 3))
    (kk : J G Γ cs ss (pc + 3) L rest (j_svr sv o k (q + 1)) vi vl) : J G Γ cs ss pc L (.ref (G.1 + q) :: .ref (G.1 + o) :: rest) sv vi vl := by
  refine j_putv (sv' := j_svr sv o k (q + 1)) (vi' := vi) (vl' := vl) B hc ho hk hd hl hfin (by rcases hty with ⟨n, h⟩ | ⟨n, h⟩ <;> rw [h] <;> rfl) (by rcases hty with ⟨n, h⟩ | ⟨n, h⟩ <;> rw [h] <;> rfl) hdg rfl (fun q hq => j_en_eq rfl rfl (fun i => by simp [j_up, hq]) (fun _ => rfl) (fun _ => rfl)) ho.2 (fun j => ?_) kk
  by_cases hj : j = k
  · subst hj
    simp [j_fv, hi, j_up, j_op, va_rf]
  · simp [j_fv, j_up, hj]
/-! arrays of ints, bytes, shorts, longs -/
theorem j_iald (B : Base G Γ M d MC MS) {o N : Nat} {i : Int32} (ho : Ar sv o 11 N) (hi : vp_in i N) (hdg : decode M.2.1 pc = .ok (.iaload, 1)) (kk : J G Γ cs ss (pc + 1) L (.int (vi o i.toNatClampNeg) :: rest) sv vi vl) : J G Γ cs ss pc L (.int i :: .ref (G.1 + o) :: rest) sv vi vl := by
  obtain ⟨p, e, R, s, m, args, below, meth, c, Qw⟩ := Γ
  intro H locs ls hz hP hS hl9
  obtain ⟨hx, hb, hr, hml, hown, hts, hlk, hnm9, hR, hK, hst⟩ := B
  exact va_iald hx hb hK hP o 0 ((j_wl_at ho.1).trans (by rw [j_en_i ho (by decide) (by decide)])) rfl hi hdg (kk H locs ls hz hP hS hl9)
theorem j_bald (B : Base G Γ M d MC MS) {o N : Nat} {i : Int32} (ho : Ar sv o 12 N) (hi : vp_in i N) (hdg : decode M.2.1 pc = .ok (.baload, 1)) (kk : J G Γ cs ss (pc + 1) L (.int (vi o i.toNatClampNeg) :: rest) sv vi vl) : J G Γ cs ss pc L (.int i :: .ref (G.1 + o) :: rest) sv vi vl := by
  obtain ⟨p, e, R, s, m, args, below, meth, c, Qw⟩ := Γ
  intro H locs ls hz hP hS hl9
  obtain ⟨hx, hb, hr, hml, hown, hts, hlk, hnm9, hR, hK, hst⟩ := B
  exact va_bald hx hb hK hP o 1 ((j_wl_at ho.1).trans (by rw [j_en_i ho (by decide) (by decide)])) rfl hi hdg (kk H locs ls hz hP hS hl9)
theorem j_sald (B : Base G Γ M d MC MS) {o N : Nat} {i : Int32} (ho : Ar sv o 13 N) (hi : vp_in i N) (hdg : decode M.2.1 pc = .ok (.saload, 1)) (kk : J G Γ cs ss (pc + 1) L (.int (vi o i.toNatClampNeg) :: rest) sv vi vl) : J G Γ cs ss pc L (.int i :: .ref (G.1 + o) :: rest) sv vi vl := by
  obtain ⟨p, e, R, s, m, args, below, meth, c, Qw⟩ := Γ
  intro H locs ls hz hP hS hl9
  obtain ⟨hx, hb, hr, hml, hown, hts, hlk, hnm9, hR, hK, hst⟩ := B
  exact va_sald hx hb hK hP o 2 ((j_wl_at ho.1).trans (by rw [j_en_i ho (by decide) (by decide)])) rfl hi hdg (kk H locs ls hz hP hS hl9)
theorem j_lald (B : Base G Γ M d MC MS) {o N : Nat} {i : Int32} (ho : Ar sv o 20 N) (hi : vp_in i N) (hdg : decode M.2.1 pc = .ok (.laload, 1)) (kk : J G Γ cs ss (pc + 1) L (.long (vl o i.toNatClampNeg) :: rest) sv vi vl) : J G Γ cs ss pc L (.int i :: .ref (G.1 + o) :: rest) sv vi vl := by
  obtain ⟨p, e, R, s, m, args, below, meth, c, Qw⟩ := Γ
  intro H locs ls hz hP hS hl9
  obtain ⟨hx, hb, hr, hml, hown, hts, hlk, hnm9, hR, hK, hst⟩ := B
  exact va_lald hx hb hK hP o 3 ((j_wl_at ho.1).trans (by rw [j_en_l ho])) rfl hi hdg (kk H locs ls hz hP hS hl9)
theorem j_iast (B : Base G Γ M d MC MS) {o N : Nat} {i x : Int32} (ho : Ar sv o 11 N) (hi : vp_in i N) (hdg : decode M.2.1 pc = .ok (.iastore, 1)) (kk : J G Γ cs ss (pc + 1) L rest sv (j_up vi o i.toNatClampNeg x) vl) : J G Γ cs ss pc L (.int x :: .int i :: .ref (G.1 + o) :: rest) sv vi vl := by
  obtain ⟨p, e, R, s, m, args, below, meth, c, Qw⟩ := Γ
  intro H locs ls hz hP hS hl9
  obtain ⟨hx, hb, hr, hml, hown, hts, hlk, hnm9, hR, hK, hst⟩ := B
  have ha : (j_wl G.1 G.2.2.1 sv vi vl)[o]? = some (G.1 + o, .inl (G.2.2.1 11, N, .inl (vi o))) := (j_wl_at ho.1).trans (by rw [j_en_i ho (by decide) (by decide)])
  refine W.iast hx hb (hP o _ ha) ((hK.2 0 _ rfl).1 N (fun j => .int (vi o j))) (fun q => by cases q) (by show ¬ (i < 0 ∨ (arrV _ _ _).slots.size ≤ _); rw [arrV_size]; exact hi) rfl rfl hdg fun H1 e1 z1 oq => ?_
  refine kk H1 _ ls (by rw [z1, hz]) (j_set hP rfl (fun q hq => j_en_eq rfl rfl (fun _ => rfl) (fun i => by simp [j_up, hq]) (fun _ => rfl)) ?_ oq) (hS.put z1 oq (by show G.1 ≤ G.1 + o; omega)) hl9
  rw [j_en_i ho (by decide) (by decide)]
  show H1[_]? = some (vp_cell _ _)
  rw [e1]
  rw [vp_cell_i, vp_cell_i, arrV_store]
  congr 2
  funext q
  by_cases hq : q = i.toNatClampNeg
  · subst hq
    simp [updV, j_up]
  · simp [updV, j_up, hq]
theorem j_bast (B : Base G Γ M d MC MS) {o N : Nat} {i x : Int32} (ho : Ar sv o 12 N) (hi : vp_in i N) (hdg : decode M.2.1 pc = .ok (.bastore, 1)) (kk : J G Γ cs ss (pc + 1) L rest sv (j_up vi o i.toNatClampNeg x.toInt8.toInt32) vl) : J G Γ cs ss pc L (.int x :: .int i :: .ref (G.1 + o) :: rest) sv vi vl := by
  obtain ⟨p, e, R, s, m, args, below, meth, c, Qw⟩ := Γ
  intro H locs ls hz hP hS hl9
  obtain ⟨hx, hb, hr, hml, hown, hts, hlk, hnm9, hR, hK, hst⟩ := B
  have ha : (j_wl G.1 G.2.2.1 sv vi vl)[o]? = some (G.1 + o, .inl (G.2.2.1 12, N, .inl (vi o))) := (j_wl_at ho.1).trans (by rw [j_en_i ho (by decide) (by decide)])
  refine W.bast hx hb (hP o _ ha) ((hK.2 1 _ rfl).1 N (fun j => .int (vi o j))) (fun q => by cases q) (by show ¬ (i < 0 ∨ (arrV _ _ _).slots.size ≤ _); rw [arrV_size]; exact hi) rfl rfl hdg fun H1 e1 z1 oq => ?_
  refine kk H1 _ ls (by rw [z1, hz]) (j_set hP rfl (fun q hq => j_en_eq rfl rfl (fun _ => rfl) (fun i => by simp [j_up, hq]) (fun _ => rfl)) ?_ oq) (hS.put z1 oq (by show G.1 ≤ G.1 + o; omega)) hl9
  rw [j_en_i ho (by decide) (by decide)]
  show H1[_]? = some (vp_cell _ _)
  rw [e1]
  rw [vp_cell_i, vp_cell_i, arrV_store]
  congr 2
  funext q
  by_cases hq : q = i.toNatClampNeg
  · subst hq
    simp [updV, j_up, narrow]
  · simp [updV, j_up, hq]
theorem j_sast (B : Base G Γ M d MC MS) {o N : Nat} {i x : Int32} (ho : Ar sv o 13 N) (hi : vp_in i N) (hdg : decode M.2.1 pc = .ok (.sastore, 1)) (kk : J G Γ cs ss (pc + 1) L rest sv (j_up vi o i.toNatClampNeg x.toInt16.toInt32) vl) : J G Γ cs ss pc L (.int x :: .int i :: .ref (G.1 + o) :: rest) sv vi vl := by
  obtain ⟨p, e, R, s, m, args, below, meth, c, Qw⟩ := Γ
  intro H locs ls hz hP hS hl9
  obtain ⟨hx, hb, hr, hml, hown, hts, hlk, hnm9, hR, hK, hst⟩ := B
  have ha : (j_wl G.1 G.2.2.1 sv vi vl)[o]? = some (G.1 + o, .inl (G.2.2.1 13, N, .inl (vi o))) := (j_wl_at ho.1).trans (by rw [j_en_i ho (by decide) (by decide)])
  refine W.sast hx hb (hP o _ ha) ((hK.2 2 _ rfl).1 N (fun j => .int (vi o j))) (fun q => by cases q) (by show ¬ (i < 0 ∨ (arrV _ _ _).slots.size ≤ _); rw [arrV_size]; exact hi) rfl rfl hdg fun H1 e1 z1 oq => ?_
  refine kk H1 _ ls (by rw [z1, hz]) (j_set hP rfl (fun q hq => j_en_eq rfl rfl (fun _ => rfl) (fun i => by simp [j_up, hq]) (fun _ => rfl)) ?_ oq) (hS.put z1 oq (by show G.1 ≤ G.1 + o; omega)) hl9
  rw [j_en_i ho (by decide) (by decide)]
  show H1[_]? = some (vp_cell _ _)
  rw [e1]
  rw [vp_cell_i, vp_cell_i, arrV_store]
  congr 2
  funext q
  by_cases hq : q = i.toNatClampNeg
  · subst hq
    simp [updV, j_up, narrow]
  · simp [updV, j_up, hq]
theorem j_last (B : Base G Γ M d MC MS) {o N : Nat} {i : Int32} {x : Int64} (ho : Ar sv o 20 N) (hi : vp_in i N) (hdg : decode M.2.1 pc = .ok (.lastore, 1)) (kk : J G Γ cs ss (pc + 1) L rest sv vi (j_up vl o i.toNatClampNeg x)) : J G Γ cs ss pc L (.long x :: .int i :: .ref (G.1 + o) :: rest) sv vi vl := by
  obtain ⟨p, e, R, s, m, args, below, meth, c, Qw⟩ := Γ
  intro H locs ls hz hP hS hl9
  obtain ⟨hx, hb, hr, hml, hown, hts, hlk, hnm9, hR, hK, hst⟩ := B
  have ha : (j_wl G.1 G.2.2.1 sv vi vl)[o]? = some (G.1 + o, .inl (G.2.2.1 20, N, .inr (.inl (vl o)))) := (j_wl_at ho.1).trans (by rw [j_en_l ho])
  refine W.last hx hb (hP o _ ha) ((hK.2 3 _ rfl).1 N (fun j => .long (vl o j))) (fun q => by cases q) (by show ¬ (i < 0 ∨ (arrV _ _ _).slots.size ≤ _); rw [arrV_size]; exact hi) rfl rfl hdg fun H1 e1 z1 oq => ?_
  refine kk H1 _ ls (by rw [z1, hz]) (j_set hP rfl (fun q hq => j_en_eq rfl rfl (fun _ => rfl) (fun _ => rfl) (fun i => by simp [j_up, hq])) ?_ oq) (hS.put z1 oq (by show G.1 ≤ G.1 + o; omega)) hl9
  rw [j_en_l ho]
  show H1[_]? = some (vp_cell _ _)
  rw [e1]
  rw [vp_cell_l, vp_cell_l, arrV_store]
  congr 2
  funext q
  by_cases hq : q = i.toNatClampNeg
  · subst hq
    simp [updV, j_up]
  · simp [updV, j_up, hq]
theorem j_alen (B : Base G Γ M d MC MS) {o k N : Nat} {v : Int32} (ho : Ar sv o k N) (hk : k = 11 ∨ k = 12 ∨ k = 20) (hv : Int32.ofNat N = v) (hdg : decode M.2.1 pc = .ok (.arraylength, 1)) (kk : J G Γ cs ss (pc + 1) L (.int v :: rest) sv vi vl) : J G Γ cs ss pc L (.ref (G.1 + o) :: rest) sv vi vl := by
  obtain ⟨p, e, R, s, m, args, below, meth, c, Qw⟩ := Γ
  intro H locs ls hz hP hS hl9
  obtain ⟨hx, hb, hr, hml, hown, hts, hlk, hnm9, hR, hK, hst⟩ := B
  rcases hk with rfl | rfl | rfl
  · exact va_alen hx hb hK hP o 0 ((j_wl_at ho.1).trans (by rw [j_en_i ho (by decide) (by decide)])) rfl hv hdg (kk H locs ls hz hP hS hl9)
  · exact va_alen hx hb hK hP o 1 ((j_wl_at ho.1).trans (by rw [j_en_i ho (by decide) (by decide)])) rfl hv hdg (kk H locs ls hz hP hS hl9)
  · exact va_alen hx hb hK hP o 3 ((j_wl_at ho.1).trans (by rw [j_en_l ho])) rfl hv hdg (kk H locs ls hz hP hS hl9)
/-! arrays of references: 21 Dust, 22 Shelf, 23 Sill -/
theorem j_aald (B : Base G Γ M d MC MS) {o k N q : Nat} {i : Int32} (ho : Ar sv o k N) (hk : k = 21 ∨ k = 22 ∨ k = 23) (hi : vp_in i N) (hv : sv.2.2.2 o i.toNatClampNeg = q + 1) (hdg : decode M.2.1 pc = .ok (.aaload, 1)) (kk : J G Γ cs ss (pc + 1) L (.ref (G.1 + q) :: rest) sv vi vl) : J G Γ cs ss pc L (.int i :: .ref (G.1 + o) :: rest) sv vi vl := by
  obtain ⟨p, e, R, s, m, args, below, meth, c, Qw⟩ := Γ
  intro H locs ls hz hP hS hl9
  obtain ⟨hx, hb, hr, hml, hown, hts, hlk, hnm9, hR, hK, hst⟩ := B
  have e0 : va_rf (j_op G.1 (sv.2.2.2 o i.toNatClampNeg)) = .ref (G.1 + q) := by rw [hv]; rfl
  have k0 := kk H locs ls hz hP hS hl9
  rw [← e0] at k0
  rcases hk with rfl | rfl | rfl
  · exact va_aldq hx hb hK hP o 4 ((j_wl_at ho.1).trans (by rw [j_en_q ho (by decide)])) rfl hi hdg k0
  · exact va_aldq hx hb hK hP o 5 ((j_wl_at ho.1).trans (by rw [j_en_q ho (by decide)])) rfl hi hdg k0
  · exact va_aldq hx hb hK hP o 6 ((j_wl_at ho.1).trans (by rw [j_en_q ho (by decide)])) rfl hi hdg k0
theorem j_aast (B : Base G Γ M d MC MS) {o k N q ci : Nat} {i : Int32} (ho : Ar sv o k N) (hk : (k = 21 ∧ ci = 3) ∨ (k = 22 ∧ ci = 6) ∨ (k = 23 ∧ ci = 7)) (hq : Ob sv q ci) (hi : vp_in i N) (hdg : decode M.2.1 pc = .ok (.aastore, 1)) (kk : J G Γ cs ss (pc + 1) L rest (j_svr sv o i.toNatClampNeg (q + 1)) vi vl) : J G Γ cs ss pc L (.ref (G.1 + q) :: .int i :: .ref (G.1 + o) :: rest) sv vi vl := by
  obtain ⟨p, e, R, s, m, args, below, meth, c, Qw⟩ := Γ
  intro H locs ls hz hP hS hl9
  obtain ⟨hx, hb, hr, hml, hown, hts, hlk, hnm9, hR, hK, hst⟩ := B
  have hk2 : 20 < k := by omega
  have hci : ci < 11 := by omega
  have hlt : i.toNatClampNeg < N := Nat.not_le.mp fun q => hi (Or.inr q)
  have h0 : ¬ i < 0 := fun q => hi (Or.inl q)
  have ha : (j_wl G.1 G.2.2.1 sv vi vl)[o]? = some (G.1 + o, .inl (G.2.2.1 k, N, .inr (.inr (.inr (.inr (fun i => j_op G.1 (sv.2.2.2 o i))))))) := (j_wl_at ho.1).trans (by rw [j_en_q ho hk2])
  have hv : (j_wl G.1 G.2.2.1 sv vi vl)[q]? = some (G.1 + q, .inr (ci, j_fs G.1 sv vi ci q)) := (j_wl_at hq.1).trans (by rw [j_en_o hq.2 hci])
  obtain ⟨r', hr', cellV, g1, g2, g3, -⟩ := hP q _ hv
  have key : ∃ (kA : Class) (r : vw_C), s.vm.classes[G.2.2.1 k]? = some kA ∧ kA.kind = .array (G.2.1.1 ci) (.object r.1) ∧ ClassAt s r.1 (G.2.1.1 ci) := by
    rcases hk with ⟨rfl, rfl⟩ | ⟨rfl, rfl⟩ | ⟨rfl, rfl⟩
    · obtain ⟨kA, comp, k1, k2, k3, -⟩ := (hK.2 4 (G.2.2.1 21, .object RX3) rfl).2
      have hcls := (hK.1 3 (RX3, TX3, 3) rfl).2
      have hcomp : comp = G.2.1.1 3 := Option.some.inj (k3.symm.trans hcls.1)
      subst hcomp
      exact ⟨kA, (RX3, TX3, 3), k1, k2, hcls⟩
    · obtain ⟨kA, comp, k1, k2, k3, -⟩ := (hK.2 5 (G.2.2.1 22, .object RX6) rfl).2
      have hcls := (hK.1 6 (RX6, TX6, 5) rfl).2
      have hcomp : comp = G.2.1.1 6 := Option.some.inj (k3.symm.trans hcls.1)
      subst hcomp
      exact ⟨kA, (RX6, TX6, 5), k1, k2, hcls⟩
    · obtain ⟨kA, comp, k1, k2, k3, -⟩ := (hK.2 6 (G.2.2.1 23, .object RX7) rfl).2
      have hcls := (hK.1 7 (RX7, TX7, 5) rfl).2
      have hcomp : comp = G.2.1.1 7 := Option.some.inj (k3.symm.trans hcls.1)
      subst hcomp
      exact ⟨kA, (RX7, TX7, 5), k1, k2, hcls⟩
  obtain ⟨kA, r, k1, k2, hcls⟩ := key
  obtain ⟨kC, hkC, -⟩ := hcls.2
  refine W.aast hx hb (hP o _ ha) (fun q h => by cases h) (fun h => by cases h) k1 k2 rfl hkC ⟨h0, by show _ < (arrV _ _ _).slots.size; rw [arrV_size]; exact hlt⟩ g1 (fun q h => by rw [g3] at h; cases h) (by rw [g2]; exact hkC) (by rw [g2]; exact va_assign hcls) rfl rfl hdg fun H1 e1 z1 oq => ?_
  refine kk H1 _ ls (by rw [z1, hz]) (j_set hP rfl (fun q hq => j_en_eq rfl rfl (fun i => by simp [j_up, hq]) (fun _ => rfl) (fun _ => rfl)) ?_ oq) (hS.put z1 oq (by show G.1 ≤ G.1 + o; omega)) hl9
  rw [j_en_q (sv := j_svr sv o i.toNatClampNeg (q + 1)) (k := k) (N := N) ⟨ho.1, ho.2.1, ho.2.2⟩ hk2]
  show H1[_]? = some (vp_cell _ _)
  rw [e1]
  rw [vp_cell_q, vp_cell_q, arrV_store]
  congr 2
  funext x
  by_cases hx : x = i.toNatClampNeg
  · subst hx
    simp [updV, j_up, va_rf, j_op]
  · simp [updV, j_up, hx]
end JH
