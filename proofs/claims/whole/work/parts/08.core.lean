/-! THE PICTURE OF THE HEAP. Objects have numbers 0, 1, 2 .. in the order in which they were made; the object o lies at the address z + o.
sv: how many there are, the kind of each, its size, its references (0: null, r + 1: the object r); vi: its ints (bytes, shorts, booleans too); vl: its longs. -/
abbrev jcl : List vw_C := [(RX0, TX0, 4), (RX1, TX1, 6), (RX2, TX2, 7), (RX3, TX3, 3), (RX4, TX4, 3), (RX5, TX5, 6), (RX6, TX6, 5), (RX7, TX7, 5), (RX8, TX8, 5), (RX9, TX9, 14), (RX10, TX10, 53)]
abbrev SV : Type := Nat × (Nat → Nat) × (Nat → Nat) × (Nat → Nat → Nat)
abbrev VI : Type := Nat → Nat → Int32
abbrev VL : Type := Nat → Nat → Int64
def j_nf (k : Nat) : Nat := match jcl[k]? with
  | some q => q.2.2
  | none => 0
def j_isr (k i : Nat) : Bool := match jcl[k]? with
  | some q => !((q.2.1 i).2.2.1 == "I" || (q.2.1 i).2.2.1 == "Z")
  | none => false
def j_op (z : Nat) (r : Nat) : Option Nat := match r with
  | 0 => none
  | q + 1 => some (z + q)
def j_fv (z : Nat) (sv : SV) (vi : VI) (k o i : Nat) : Value := if j_isr k i = true then va_rf (j_op z (sv.2.2.2 o i)) else .int (vi o i)
def j_fs (z : Nat) (sv : SV) (vi : VI) (k o : Nat) : List Value := (List.range (j_nf k)).map (j_fv z sv vi k o)
def j_en (z : Nat) (aC : Nat → ClassId) (sv : SV) (vi : VI) (vl : VL) (o : Nat) : va_E :=
  if sv.2.1 o < 11 then .inr (sv.2.1 o, j_fs z sv vi (sv.2.1 o) o)
  else if sv.2.1 o < 20 then .inl (aC (sv.2.1 o), sv.2.2.1 o, .inl (vi o))
  else if sv.2.1 o = 20 then .inl (aC 20, sv.2.2.1 o, .inr (.inl (vl o)))
  else .inl (aC (sv.2.1 o), sv.2.2.1 o, .inr (.inr (.inr (.inr (fun i => j_op z (sv.2.2.2 o i))))))
def j_wl (z : Nat) (aC : Nat → ClassId) (sv : SV) (vi : VI) (vl : VL) : va_W := (List.range sv.1).map (fun o => (z + o, j_en z aC sv vi vl o))
def j_up {α : Type} (f : Nat → Nat → α) (o i : Nat) (x : α) : Nat → Nat → α := fun a b => if a = o ∧ b = i then x else f a b
def j_row {α : Type} (f : Nat → Nat → α) (o : Nat) (g : Nat → α) : Nat → Nat → α := fun a b => if a = o then g b else f a b
def Ob (sv : SV) (o k : Nat) : Prop := o < sv.1 ∧ sv.2.1 o = k
def Ar (sv : SV) (o k N : Nat) : Prop := o < sv.1 ∧ sv.2.1 o = k ∧ sv.2.2.1 o = N
theorem j_wl_at {z : Nat} {aC : Nat → ClassId} {sv : SV} {vi : VI} {vl : VL} {o : Nat} (h : o < sv.1) : (j_wl z aC sv vi vl)[o]? = some (z + o, j_en z aC sv vi vl o) := by
  simp [j_wl, h]
theorem j_wl_of {z : Nat} {aC : Nat → ClassId} {sv : SV} {vi : VI} {vl : VL} {k : Nat} {q : Nat × va_E} (h : (j_wl z aC sv vi vl)[k]? = some q) : k < sv.1 ∧ q = (z + k, j_en z aC sv vi vl k) := by
  by_cases hk : k < sv.1
  · rw [j_wl_at hk] at h
    exact ⟨hk, (Option.some.inj h).symm⟩
  · simp [j_wl, hk] at h
theorem j_wl_D {z : Nat} {aC : Nat → ClassId} {sv : SV} {vi : VI} {vl : VL} : va_D (fun q => z ≤ q) (j_wl z aC sv vi vl) := by
  refine ⟨fun i j p q hi hj he => ?_, fun k q hk => ?_⟩
  · obtain ⟨-, rfl⟩ := j_wl_of hi
    obtain ⟨-, rfl⟩ := j_wl_of hj
    simp only at he
    omega
  · obtain ⟨-, rfl⟩ := j_wl_of hk
    simp
theorem j_set {D : va_G} {z : Nat} {aC : Nat → ClassId} {sv sv' : SV} {vi vi' : VI} {vl vl' : VL} {H H1 : Heap} {o : Nat} (hP : va_P D jcl (j_wl z aC sv vi vl) H) (hsv : sv'.1 = sv.1)
    (hne : ∀ q, q ≠ o → j_en z aC sv' vi' vl' q = j_en z aC sv vi vl q) (he : va_at D jcl (z + o, j_en z aC sv' vi' vl' o) H1) (oq : ∀ q : Nat, q ≠ z + o → H1[q]? = H[q]?) : va_P D jcl (j_wl z aC sv' vi' vl') H1 := by
  intro k q hk
  obtain ⟨hlt, rfl⟩ := j_wl_of hk
  by_cases hko : k = o
  · subst hko; exact he
  · rw [hne k hko]
    exact (hP k _ (j_wl_at (by rw [← hsv]; exact hlt))).kept (oq (z + k) (by omega))
/-- the two tables of Bodies -/
def j_own : Nat → Int32 := fun j => [1, 10, 11, 2, 20, 0, 0, 0, 0, 30, 0, 0, 0, 41, 40, 0, 0, 0, 0, 50, 0, 0, 60, 61, 70, 0, 0, 0, 81, 80, 0, 0].getD j 0
def j_abv : Nat → Int32 := fun j => [-1, 0, 0, 2, 1, 3, 0, 6].getD j 0
def j_nests : List (String × Nat × MethodName × String) := [("DustInOrder", 21, yX8_init, "DustInOrder"), ("DustInOrder", 28, yX5_init, "DustInOrder"), ("DustInOrder", 38, yX3_init, "DustInOrder"), ("DustInOrder", 45, yX2_init, "DustInOrder"), ("DustInOrder$Image", 21, yX3_init, "DustInOrder"), ("DustInOrder", 65, yX1_init, "DustInOrder"), ("DustInOrder", 72, yX0_init, "DustInOrder"), ("DustInOrder", 89, yX6_init, "DustInOrder"), ("DustInOrder$Sill", 11, yX3_init, "DustInOrder"), ("DustInOrder", 320, yX0_run, "DustInOrder")]
/-- z, where fields lie, the classes of arrays, the two tables' addresses, the launch -/
abbrev GT : Type := Nat × va_G × (Nat → ClassId) × Nat × Nat × Launch
def j_tys (aC : Nat → ClassId) : List (ClassId × FieldType) := [(aC 11, .int), (aC 12, .byte), (aC 13, .short), (aC 20, .long), (aC 21, .object RX3), (aC 22, .object RX6), (aC 23, .object RX7)]
def j_stat (G : GT) (U : State) (H : Heap) : Prop :=
  va_Z RX0 "OWN" "[I" (.ref G.2.2.2.1) (fun q => G.1 ≤ q) U H ∧ va_Z RX0 "ABOVE" "[I" (.ref G.2.2.2.2.1) (fun q => G.1 ≤ q) U H ∧
  va_T .int G.2.2.2.1 32 (fun j => .int (j_own j)) (fun q => G.1 ≤ q) U H ∧ va_T .int G.2.2.2.2.1 8 (fun j => .int (j_abv j)) (fun q => G.1 ≤ q) U H ∧
  (∀ q ∈ j_nests, va_Nw (.methodLinkNest q.1 q.2.1 q.2.2.1 q.2.2.2) U) ∧ va_AO RX3 U ∧ va_AO RX6 U ∧ va_AO RX7 U
theorem j_stat.moved {G : GT} {u U : State} {H : Heap} (hW : u.WarmedH U.vm) (h : j_stat G u H) : j_stat G U H :=
  ⟨h.1.moved hW.alike, h.2.1.moved hW.alike, h.2.2.1.moved hW.alike, h.2.2.2.1.moved hW.alike, fun q hq => va_Nw.warmM hW (h.2.2.2.2.1 q hq), h.2.2.2.2.2.1.moved hW.alike, h.2.2.2.2.2.2.1.moved hW.alike, h.2.2.2.2.2.2.2.moved hW.alike⟩
theorem j_stat.kept {G : GT} {U : State} {H H1 : Heap} (h : j_stat G U H) (hq : ∀ a : Nat, a < H.size → ¬ G.1 ≤ a → H1[a]? = H[a]?) : j_stat G U H1 :=
  ⟨h.1.kept hq, h.2.1.kept hq, h.2.2.1.kept hq, h.2.2.2.1.kept hq, h.2.2.2.2⟩
theorem j_stat.same {G : GT} {u U : State} {H : Heap} (hv : u.vm = U.vm) (h : j_stat G u H) : j_stat G U H := by
  have ha : u.vm.Alike U.vm := by rw [hv]; exact Vm.Alike.refl _
  exact ⟨h.1.moved ha, h.2.1.moved ha, h.2.2.1.moved ha, h.2.2.2.1.moved ha, fun q hq => va_Nw.same rfl hv (h.2.2.2.2.1 q hq), h.2.2.2.2.2.1.moved ha, h.2.2.2.2.2.2.1.moved ha, h.2.2.2.2.2.2.2.moved ha⟩
/-- the picture, of a whole state -/
def j_rep (G : GT) (sv : SV) (vi : VI) (vl : VL) (U : State) : Prop :=
  va_K G.2.1 jcl (j_tys G.2.2.1) U ∧ j_stat G U U.heap ∧ U.heap.size = G.1 + sv.1 ∧ va_P G.2.1 jcl (j_wl G.1 G.2.2.1 sv vi vl) U.heap
abbrev MI : Type := MethodName × ByteArray × Nat × Option FieldType
def gtb : List Cond := lw_tbl.filter goodWord
theorem gtb_in {w : Cond} (h : w ∈ lw_tbl) (hg : goodWord w = true) : w ∈ gtb := List.mem_filter.mpr ⟨h, hg⟩
def j_ws (M : MI) : List Cond := .code M.1 M.2.1 M.2.2.1 M.2.2.2 :: gtb
def j_rm (d MC MS : Nat) : Room := { frames := d, cells := MC, slots := MS, locals := 64 * d }
abbrev QT : Type := Option Value → SV → VI → VL → Prop
def j_Qc (G : GT) (Q : QT) : Array Value → State → Outcome → State → Prop := fun _ st oc t => (∃ r sv vi vl, Q r sv vi vl ∧ oc = .returned r ∧ j_rep G sv vi vl t) ∧ va_F (fun q => G.1 ≤ q) st t
/-- the contract of a method: from this picture it returns, and what it answers and leaves is as Q says -/
def Call (G : GT) (M : MI) (d MC MS : Nat) (av : List Value) (sv : SV) (vi : VI) (vl : VL) (Q : QT) : Prop :=
  Met G.2.2.2.2.2 M.1 (j_ws M) (j_rm d MC MS) (fun a U => a = av.toArray ∧ j_rep G sv vi vl U) (j_Qc G Q) MC MS (fun q => G.1 ≤ q)
abbrev CT : Type := Program × Env × Room × State × MethodId × Array Value × List Frame × Method × Code × (State → Prop)
def Base (G : GT) (Γ : CT) (M : MI) (d MC MS : Nat) : Prop := match Γ with
  | (p, _, R, s, m, args, _, meth, c, _) => p.tables.exec = Jvm.exec ∧ c.code = M.2.1 ∧ meth.sig.returnType = M.2.2.2 ∧ c.maxLocals = M.2.2.1 ∧ s.vm.findClass M.1.cls = some m.cls ∧ (∀ w ∈ gtb, w.before args s = true) ∧ meth.locks = false ∧ meth.name = M.1.name ∧
    (d ≤ R.frames ∧ 64 * d ≤ R.locals ∧ MC ≤ R.cells ∧ MS ≤ R.slots) ∧ va_K G.2.1 jcl (j_tys G.2.2.1) s ∧ j_stat G s s.heap
def Ends (G : GT) (Γ : CT) (MC MS : Nat) (Q : QT) : Prop := match Γ with
  | (_, _, _, s, _, args, below, _, _, Qw) => Qw = MQ below (j_Qc G Q) args s MC MS (fun q => G.1 ≤ q)
def J (G : GT) (Γ : CT) (cs ss pc : Nat) (L : List (Nat × Value)) (st : List Value) (sv : SV) (vi : VI) (vl : VL) : Prop := match Γ with
  | (p, e, R, s, m, args, below, meth, c, Qw) => ∀ (H : Heap) (locs : List Loc) (ls : Array Slot), H.size = G.1 + sv.1 → va_P G.2.1 jcl (j_wl G.1 G.2.2.1 sv vi vl) H → va_S (fun q => G.1 ≤ q) s.heap H locs → lv_has ls c.maxLocals L →
      W p G.2.2.2.2.2 e R s m args below meth c H locs cs ss Qw (F0 m pc ls st)
theorem j_frameBlind {G : GT} {av : List Value} {sv : SV} {vi : VI} {vl : VL} : FrameBlind (fun a U => a = av.toArray ∧ j_rep G sv vi vl U) := by
  intro a U g mk h
  obtain ⟨h1, h2, h3, h4, h5⟩ := h
  exact ⟨h1, va_K.moved (u := U) (U := U.calling g mk a) (Vm.Alike.refl U.vm) h2, j_stat.same (u := U) (U := U.calling g mk a) rfl h3, h4, h5⟩
/-- a contract, by a walk -/
theorem j_mk {G : GT} {M : MI} {d MC MS : Nat} {av : List Value} {sv : SV} {vi : VI} {vl : VL} {Q : QT} (hpl : plainName M.1.cls = true) (hL : (lg_sl av).length ≤ M.2.2.1)
    (body : ∀ Γ : CT, Base G Γ M d MC MS → Ends G Γ MC MS Q → J G Γ 0 0 0 (lv_args 0 av) [] sv vi vl) : Call G M d MC MS av sv vi vl Q := by
  refine Met.ofW (cc := M.2.1) (maxL := M.2.2.1) (ret := M.2.2.2) hpl rfl ?_
  intro p e s m args below meth c s₁ B hml hv
  obtain ⟨rfl, hK, hst, hsz, hP⟩ := hv
  have hts := atoms_spec (ws := j_ws M) B.pre
  have h0 := body (p, e, j_rm d MC MS, s, m, av.toArray, below, meth, c, MQ below (j_Qc G Q) av.toArray s MC MS (fun q => G.1 ≤ q))
    ⟨B.exec, B.bytes, B.returns, hml, findClass_of_methodNamed B.named, fun w hw => hts w (List.mem_cons_of_mem _ hw), B.notSynchronized, (name_of_methodNamed B.named B.method).1, ⟨Nat.le_refl _, Nat.le_refl _, Nat.le_refl _, Nat.le_refl _⟩, hK, hst⟩ rfl
  rw [lg_entry_eq]
  refine h0 s.heap [] _ hsz hP va_S.rf ?_
  show lv_has _ c.maxLocals _
  rw [hml]
  exact lv_entry av hL
theorem j_end {G : GT} {Γ : CT} {M : MI} {d MC MS : Nat} (B : Base G Γ M d MC MS) {Q : QT} {r : Option Value} {sv : SV} {vi : VI} {vl : VL} (hQ : Q r sv vi vl) : match Γ with
  | (_, _, _, s, _, args, _, _, _, _) => ∀ (H : Heap) (locs : List Loc), H.size = G.1 + sv.1 → va_P G.2.1 jcl (j_wl G.1 G.2.2.1 sv vi vl) H → va_S (fun q => G.1 ≤ q) s.heap H locs → ∀ t : State, t.heap = H → s.WarmedH t.vm → j_Qc G Q args s (.returned r) t := by
  obtain ⟨p, e, R, s, m, args, below, meth, c, Qw⟩ := Γ
  intro H locs hz hP hS t ht hW
  obtain ⟨-, -, -, -, -, -, -, -, -, hK, hst⟩ := B
  exact ⟨⟨r, sv, vi, vl, hQ, rfl, hK.moved hW.alike, by rw [ht]; exact (hst.kept hS.2.1).moved hW, by rw [ht]; exact hz, by rw [ht]; exact hP⟩, hS.F ht⟩
