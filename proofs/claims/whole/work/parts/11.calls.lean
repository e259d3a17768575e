/-! RULES THAT MAKE OBJECTS; CALLS; ENDS -/
abbrev j_z0 {α : Type} (f : Nat → Nat → α) (n : Nat) (x : α) : Nat → Nat → α := fun a b => if a = n then x else f a b
abbrev j_svn (sv : SV) (k N : Nat) : SV := (sv.1 + 1, fun a => if a = sv.1 then k else sv.2.1 a, fun a => if a = sv.1 then N else sv.2.2.1 a, j_z0 sv.2.2.2 sv.1 0)
theorem j_wl_push {D : va_G} {z : Nat} {aC : Nat → ClassId} {sv : SV} {vi : VI} {vl : VL} {k N : Nat} {H H1 : Heap} (hP : va_P D jcl (j_wl z aC sv vi vl) H) (hz : H.size = z + sv.1) (he : va_at D jcl (z + sv.1, j_en z aC (j_svn sv k N) (j_z0 vi sv.1 0) (j_z0 vl sv.1 0) sv.1) H1) (oq : ∀ q : Nat, q < H.size → H1[q]? = H[q]?) : va_P D jcl (j_wl z aC (j_svn sv k N) (j_z0 vi sv.1 0) (j_z0 vl sv.1 0)) H1 := by
  intro i q hi
  obtain ⟨hlt, rfl⟩ := j_wl_of hi
  by_cases hin : i = sv.1
  · subst hin; exact he
  · have hlt' : i < sv.1 := by
      have : i < sv.1 + 1 := hlt
      omega
    have e1 : j_en z aC (j_svn sv k N) (j_z0 vi sv.1 0) (j_z0 vl sv.1 0) i = j_en z aC sv vi vl i := j_en_eq (by simp [hin]) (by simp [hin]) (fun _ => by simp [hin]) (fun _ => by simp [hin]) (fun _ => by simp [hin])
    rw [e1]
    exact (hP i _ (j_wl_at hlt')).kept (oq (z + i) (by rw [hz]; omega))
section JN
variable {G : GT} {Γ : CT} {M : MI} {d MC MS : Nat} {cs ss pc : Nat} {L : List (Nat × Value)} {rest : List Value} {sv : SV} {vi : VI} {vl : VL}
theorem j_new (B : Base G Γ M d MC MS) {ci index N : Nat} {C : String} {T : u_T} {ty0 : Nat → FieldType} (hc : j_cls ci C T N ty0) (hdef : ∀ k, k < N → defaultValue (ty0 k) = if j_isr ci k = true then .null else .int 0) (w1 : Cond.classLink M.1.cls index C ∈ gtb) (w2 : Cond.instantiable C N ∈ gtb) (w3 : Cond.initialized C ∈ gtb) (hcs : cs + 1 ≤ MC) (hss : ss + N ≤ MS) (hdg : decode M.2.1 pc = .ok (.new index, 3))
    (kk : J G Γ (cs + 1) (ss + N) (pc + 3) L (.ref (G.1 + sv.1) :: rest) (j_svn sv ci N) (j_z0 vi sv.1 0) (j_z0 vl sv.1 0)) : J G Γ cs ss pc L rest sv vi vl := by
  obtain ⟨p, e, R, s, m, args, below, meth, c, Qw⟩ := Γ
  intro H locs ls hz hP hS hl9
  obtain ⟨hx, hb, hr, hml, hown, hts, hlk, hnm9, hR, hK, hst⟩ := B
  obtain ⟨hlt, hcl, hin, hty, hnm⟩ := id hc
  have hKn := hK.1 ci _ hcl
  refine W.newcK hx hb hown (hts _ w1) (hts _ w2) (hts _ w3) rfl hdg (Nat.le_trans hcs hR.2.2.1) (Nat.le_trans hss hR.2.2.2) hKn.2.1 hz fun H1 kC hkC e1 z1 o1 => ?_
  refine kk H1 locs ls (by rw [z1]; show _ = G.1 + (sv.1 + 1); omega) (j_wl_push hP hz ?_ (fun q hq => o1 q (by rw [← hz]; exact hq))) ⟨by have := hS.1; rw [z1, ← hz]; omega, fun x h1 h2 => (o1 x (by rw [← hz]; exact Nat.lt_of_lt_of_le h1 hS.1)).trans (hS.2.1 x h1 h2), hS.2.2⟩ hl9
  rw [j_en_o (ci := ci) (by simp) hlt]
  refine ⟨_, hcl, (u_born ty0 hts hin hKn hkC e1 hty).to (fun j hj => ?_)⟩
  rw [j_fs_V (by rw [j_nf_of hc]; exact hj), hdef j hj]
  by_cases hi : j_isr ci j = true
  · have e0 : j_z0 sv.2.2.2 sv.1 0 sv.1 j = 0 := if_pos rfl
    simp only [j_fv, hi, if_true, e0, j_op, va_rf]
  · simp [j_fv, hi]
theorem j_newa (B : Base G Γ M d MC MS) {atype : ArrayType} {k N : Nat} {n : Int32} (hat : (atype = .int ∧ k = 11) ∨ (atype = .byte ∧ k = 12) ∨ (atype = .short ∧ k = 13) ∨ (atype = .long ∧ k = 20)) (w1 : Cond.arrayClass (newarray.typeOf atype) ∈ gtb) (hn : ¬ n < 0) (hN : n.toNatClampNeg = N) (hsm : N ≤ 67108864) (hcs : cs + 1 ≤ MC) (hss : ss + N ≤ MS) (hdg : decode M.2.1 pc = .ok (.newarray atype, 2))
    (kk : J G Γ (cs + 1) (ss + N) (pc + 2) L (.ref (G.1 + sv.1) :: rest) (j_svn sv k N) (j_z0 vi sv.1 0) (j_z0 vl sv.1 0)) : J G Γ cs ss pc L (.int n :: rest) sv vi vl := by
  obtain ⟨p, e, R, s, m, args, below, meth, c, Qw⟩ := Γ
  intro H locs ls hz hP hS hl9
  obtain ⟨hx, hb, hr, hml, hown, hts, hlk, hnm9, hR, hK, hst⟩ := B
  refine va_newaK hx hb (hts _ w1) rfl hdg rfl hn hN (by rcases hat with ⟨rfl, -⟩ | ⟨rfl, -⟩ | ⟨rfl, -⟩ | ⟨rfl, -⟩ <;> simp only [newarray.typeOf, componentBytes] <;> omega) (Nat.le_trans hcs hR.2.2.1) (Nat.le_trans hss hR.2.2.2) hz fun H1 cA e1 z1 o1 hAr hNm => ?_
  refine kk H1 locs ls (by rw [z1]; show _ = G.1 + (sv.1 + 1); omega) (j_wl_push hP hz ?_ (fun q hq => o1 q (by rw [← hz]; exact hq))) ⟨by have := hS.1; rw [z1, ← hz]; omega, fun x h1 h2 => (o1 x (by rw [← hz]; exact Nat.lt_of_lt_of_le h1 hS.1)).trans (hS.2.1 x h1 h2), hS.2.2⟩ hl9
  rcases hat with ⟨rfl, rfl⟩ | ⟨rfl, rfl⟩ | ⟨rfl, rfl⟩ | ⟨rfl, rfl⟩
  · have hcA : cA = G.2.2.1 11 := Option.some.inj (hNm.symm.trans (hK.2 0 _ rfl).2)
    subst hcA
    rw [j_en_i (k := 11) (N := N) ⟨by simp, by simp, by simp⟩ (by decide) (by decide)]
    show H1[_]? = some (vp_cell _ _)
    rw [e1, vp_cell_i]
    congr 2
    funext j
    simp [newarray.typeOf, defaultValue]
  · have hcA : cA = G.2.2.1 12 := Option.some.inj (hNm.symm.trans (hK.2 1 _ rfl).2)
    subst hcA
    rw [j_en_i (k := 12) (N := N) ⟨by simp, by simp, by simp⟩ (by decide) (by decide)]
    show H1[_]? = some (vp_cell _ _)
    rw [e1, vp_cell_i]
    congr 2
    funext j
    simp [newarray.typeOf, defaultValue]
  · have hcA : cA = G.2.2.1 13 := Option.some.inj (hNm.symm.trans (hK.2 2 _ rfl).2)
    subst hcA
    rw [j_en_i (k := 13) (N := N) ⟨by simp, by simp, by simp⟩ (by decide) (by decide)]
    show H1[_]? = some (vp_cell _ _)
    rw [e1, vp_cell_i]
    congr 2
    funext j
    simp [newarray.typeOf, defaultValue]
  · have hcA : cA = G.2.2.1 20 := Option.some.inj (hNm.symm.trans (hK.2 3 _ rfl).2)
    subst hcA
    rw [j_en_l (N := N) ⟨by simp, by simp, by simp⟩]
    show H1[_]? = some (vp_cell _ _)
    rw [e1, vp_cell_l]
    congr 2
    funext j
    simp [newarray.typeOf, defaultValue]
theorem j_anewa (B : Base G Γ M d MC MS) {k N index : Nat} {C : String} {n : Int32} (hat : (C = RX3 ∧ k = 21) ∨ (C = RX6 ∧ k = 22) ∨ (C = RX7 ∧ k = 23)) (w1 : Cond.classLink M.1.cls index C ∈ gtb) (hn : ¬ n < 0) (hN : n.toNatClampNeg = N) (hsm : N ≤ 67108864) (hcs : cs + 1 ≤ MC) (hss : ss + N ≤ MS) (hdg : decode M.2.1 pc = .ok (.anewarray index, 3))
    (kk : J G Γ (cs + 1) (ss + N) (pc + 3) L (.ref (G.1 + sv.1) :: rest) (j_svn sv k N) (j_z0 vi sv.1 0) (j_z0 vl sv.1 0)) : J G Γ cs ss pc L (.int n :: rest) sv vi vl := by
  obtain ⟨p, e, R, s, m, args, below, meth, c, Qw⟩ := Γ
  intro H locs ls hz hP hS hl9
  obtain ⟨hx, hb, hr, hml, hown, hts, hlk, hnm9, hR, hK, hst⟩ := B
  have hover : va_AO C s := by
    rcases hat with ⟨rfl, -⟩ | ⟨rfl, -⟩ | ⟨rfl, -⟩
    · exact hst.2.2.2.2.2.1
    · exact hst.2.2.2.2.2.2.1
    · exact hst.2.2.2.2.2.2.2
  subst hN
  refine W.anew hx hb hown (hts _ w1) (va_AO.use hover) rfl hdg rfl hn (by omega) (Nat.le_trans hcs hR.2.2.1) (Nat.le_trans hss hR.2.2.2) fun cA kA comp f1 f2 f3 f4 => ?_
  generalize hH1 : H.push ({ cls := cA, slots := Array.replicate n.toNatClampNeg .null, vm := .none } : Cell) = H1
  have z1 : H1.size = H.size + 1 := by rw [← hH1, Array.size_push]
  have e1 : H1[H.size]? = some (arrV cA n.toNatClampNeg (fun _ => .null)) := by rw [← hH1, Array.getElem?_push_size, ← arrV_new]
  have o1 : ∀ q : Nat, q < H.size → H1[q]? = H[q]? := fun q hq => by rw [← hH1, Array.getElem?_push, if_neg (Nat.ne_of_lt hq)]
  rw [hz]
  refine kk H1 locs ls (by rw [z1, hz]; show _ = G.1 + (sv.1 + 1); omega) (j_wl_push hP hz ?_ o1) ⟨by have := hS.1; omega, fun x h1 h2 => (o1 x (Nat.lt_of_lt_of_le h1 hS.1)).trans (hS.2.1 x h1 h2), hS.2.2⟩ hl9
  have hcA : cA = G.2.2.1 k := by
    rcases hat with ⟨rfl, rfl⟩ | ⟨rfl, rfl⟩ | ⟨rfl, rfl⟩
    · obtain ⟨_, _, -, -, -, h4⟩ := (hK.2 4 (G.2.2.1 21, .object RX3) rfl).2
      exact Option.some.inj (f1.symm.trans h4)
    · obtain ⟨_, _, -, -, -, h4⟩ := (hK.2 5 (G.2.2.1 22, .object RX6) rfl).2
      exact Option.some.inj (f1.symm.trans h4)
    · obtain ⟨_, _, -, -, -, h4⟩ := (hK.2 6 (G.2.2.1 23, .object RX7) rfl).2
      exact Option.some.inj (f1.symm.trans h4)
  have hk2 : 20 < k := by omega
  rw [j_en_q (k := k) (N := n.toNatClampNeg) ⟨by simp, by simp, by simp⟩ hk2, ← hcA]
  show H1[_]? = some (vp_cell _ _)
  rw [← hz, e1, vp_cell_q]
  congr 2
  funext j
  have e0 : j_z0 sv.2.2.2 sv.1 0 sv.1 j = 0 := if_pos rfl
  show _ = va_rf (j_op G.1 (j_z0 sv.2.2.2 sv.1 0 sv.1 j))
  rw [e0]
  rfl
/-! calls -/
theorem j_run {p : Program} {e : Env} {R : Room} {s : State} {m : MethodId} {args : Array Value} {below : List Frame} {meth : Method} {c : Code} {Qw : State → Prop} {H : Heap} {locs : List Loc} {ls : Array Slot} {mc ms : Nat} {g : JFrame} {Q : QT} {a : Array Value}
    (hr : va_Run p G.2.2.2.2.2 e R s m args below meth c H locs cs ss mc ms g rest (j_Qc G Q a) (fun q => G.1 ≤ q)) (hg : { g with pc := g.pc + 3, stack := (none : Option Value).toList ++ rest } = F0 m (pc + 3) ls rest) (hS : va_S (fun q => G.1 ≤ q) s.heap H locs) (hl9 : lv_has ls c.maxLocals L)
    (kk : ∀ r sv' vi' vl', Q r sv' vi' vl' → J G (p, e, R, s, m, args, below, meth, c, Qw) (cs + mc) (ss + ms) (pc + 3) L (r.toList ++ rest) sv' vi' vl') : W p G.2.2.2.2.2 e R s m args below meth c H locs cs ss Qw g := by
  intro T hT X
  obtain ⟨v, st₀, t, T', L9, h0, X', hL, e1, e2, ⟨⟨r, sv', vi', vl', hQ, hv, hrep⟩, hF⟩, st⟩ := hr T hT X
  cases hv
  obtain ⟨-, -, hz', hP'⟩ := hrep
  have hS' : va_S (fun q => G.1 ≤ q) s.heap t.heap (locs ++ L9) := by
    rw [va_F, h0] at hF
    refine ⟨Nat.le_trans hS.1 hF.1, fun q h1 h2 => (hF.2 q (Nat.lt_of_lt_of_le h1 hS.1) h2).trans (hS.2.1 q h1 h2), fun q hq => ?_⟩
    rcases List.mem_append.mp hq with h | h
    · exact hS.2.2 q h
    · exact hL q h
  obtain ⟨t2, a1, b1⟩ := kk v sv' vi' vl' hQ t.heap (locs ++ L9) ls hz' hP' hS' hl9 T' e1 X'
  refine ⟨t2, st t2 ?_, b1⟩
  have hg2 : ({ g with pc := g.pc + 3, stack := v.toList ++ rest } : JFrame) = F0 m (pc + 3) ls (v.toList ++ rest) := by
    simp only [JFrame.mk.injEq] at hg ⊢
    exact ⟨hg.1, hg.2.1, hg.2.2.1, trivial, hg.2.2.2.2⟩
  rw [hg2]
  exact a1
theorem j_good {s : State} {args : Array Value} (M' : MI) (hts : ∀ w ∈ gtb, w.before args s = true) (hcode : Cond.code M'.1 M'.2.1 M'.2.2.1 M'.2.2.2 ∈ gtb) : GoodIn gtb (j_ws M') := by
  intro w hw
  have hw' : w ∈ gtb := by
    rcases List.mem_cons.mp hw with rfl | h
    · exact hcode
    · exact h
  exact ⟨hw', good_of_word (List.mem_filter.mp hw').2⟩
theorem j_pre {l : Nat} {s : State} {H : Heap} {locs : List Loc} (hK : va_K G.2.1 jcl (j_tys G.2.2.1) s) (hst : j_stat G s s.heap) (hz : H.size = G.1 + sv.1) (hP : va_P G.2.1 jcl (j_wl G.1 G.2.2.1 sv vi vl) H) (hS : va_S (fun q => G.1 ≤ q) s.heap H locs) (av : List Value) : ∀ U : State, U.heap = H → s.WarmedH U.vm → (av.toArray = av.toArray ∧ j_rep G sv vi vl U) := by
  intro U hU hW
  exact ⟨rfl, hK.moved hW.alike, by rw [hU]; exact (hst.kept hS.2.1).moved hW, by rw [hU]; exact hz, by rw [hU]; exact hP⟩
/-- what a call of M' from M's class needs of the tables -/
def j_to (own : String) (index : Nat) (M' : MI) (n : Nat) : Prop := Cond.code M'.1 M'.2.1 M'.2.2.1 M'.2.2.2 ∈ gtb ∧ Cond.initialized M'.1.cls ∈ gtb ∧ Cond.methodLink own index M'.1 ∈ gtb ∧ (M'.1.cls ≠ "java/lang/invoke/MethodHandle" ∧ M'.1.cls ≠ "java/lang/invoke/VarHandle" ∧ (parseMethodDescriptor M'.1.desc).map (fun d => d.parameters.length) = some n) ∧ M'.2.2.1 ≤ 45
theorem j_cb {R : Room} {s : State} {args : Array Value} {own : String} {index n d' MC' MS' : Nat} {M' : MI} (hts : ∀ w ∈ gtb, w.before args s = true) (h : j_to own index M' n) (hd : d' + 1 ≤ d) (h1 : d ≤ R.frames) (h2 : 64 * d ≤ R.locals) : CallB R s args own index M'.1 M'.2.1 M'.2.2.1 M'.2.2.2 (j_ws M') (j_rm d' MC' MS') MC' MS' n := by
  obtain ⟨w1, w2, w3, hdd, hml⟩ := h
  exact callB_of n hts (j_good M' hts w1) rfl rfl rfl (hts _ w2) (hts _ w3) hdd ⟨by show d' + 1 ≤ _; omega, by show 8 + (_ + 11) + 64 * d' ≤ _; omega⟩
/-- invokestatic -/
theorem j_callS (B : Base G Γ M d MC MS) {M' : MI} {d' MC' MS' n index : Nat} {av : List Value} {Q : QT} (hC : Call G M' d' MC' MS' av sv vi vl Q) (ht : j_to M.1.cls index M' n) (w4 : Cond.static M'.1 ∈ gtb) (hn : av.length = n) (hd : d' + 1 ≤ d) (hcs : cs + MC' ≤ MC) (hss : ss + MS' ≤ MS) {st : List Value} (hst9 : st = av.reverse ++ rest) (hrest : (rest.map fun v => v.category).sum ≤ 8) (hdg : decode M.2.1 pc = .ok (.invokestatic index, 3))
    (kk : ∀ r sv' vi' vl', Q r sv' vi' vl' → J G Γ (cs + MC') (ss + MS') (pc + 3) L (r.toList ++ rest) sv' vi' vl') : J G Γ cs ss pc L st sv vi vl := by
  obtain ⟨p, e, R, s, m, args, below, meth, c, Qw⟩ := Γ
  intro H locs ls hz hP hS hl9
  obtain ⟨hx, hb, hr, hml, hown, hts, hlk, hnm9, hR, hK, hst⟩ := B
  have S : CallFix p m c M.2.1 c.maxLocals s args gtb M.1.cls := ⟨hx, hb, rfl, hown, hts⟩
  have hp : PreS s H (fun a U => a = av.toArray ∧ j_rep G sv vi vl U) av := ⟨j_frameBlind, j_pre (l := 0) hK hst hz hP hS av⟩
  have hrun : va_Run p G.2.2.2.2.2 e R s m args below meth c H locs cs ss MC' MS' (F0 m pc ls st) rest (j_Qc G Q av.toArray) (fun q => G.1 ≤ q) := by
    intro T hT X
    have hKk : Back G.2.2.2.2.2 R p e below s args M'.1 3 8 (PreOf R MC' MS' _) (PostOf (j_Qc G Q) MC' MS' _) := callBack (j_cb (d := d) (MC' := MC') (MS' := MS') hts ht hd hR.1 hR.2.1) hC j_frameBlind
    obtain ⟨w1, w2, w3, hdd, hml'⟩ := ht
    obtain ⟨v, vm₁, ⟨U', l2, c2, s2⟩, hW₁, X', ⟨g', mk, t, L1, e1, e2, hq, h1, hL, h2, h3⟩, st1⟩ := callS X hx (bytes := M'.2.1) (maxL := M'.2.2.1) (ret := M'.2.2.2) hown (hts _ w3) (hts _ w4) (hts _ w2) (hts _ w1) ⟨hdd.1, hdd.2.1⟩ hKk (g := F0 m pc ls st) rfl hl9.1 (argsL := av) (rest := rest) (fun sig h => by have h2 := hdd.2.2; rw [h] at h2; rw [hn]; exact (Option.some.inj h2).symm) hst9 (lv_room hrest) (by rw [hb]; exact hdg)
      (fun vm₁ hW₁ => ⟨Nat.le_trans hcs hR.2.2.1, Nat.le_trans hss hR.2.2.2, hp.2 (T.setVm vm₁) hT hW₁⟩)
    dsimp only [Pt.U, Pt.locs, Pt.cells, Pt.slots] at X' e1 e2 h1 h2 h3 st1
    subst h1; subst h2; subst h3
    exact ⟨v, (T.setVm vm₁).calling g' mk av.toArray, t, U', L1, hT, X', hL, e1, e2, hq, st1⟩
  exact j_run hrun rfl hS hl9 kk
/-- invokevirtual (private methods too) -/
theorem j_callV (B : Base G Γ M d MC MS) {M' : MI} {d' MC' MS' n index o ci N : Nat} {av : List Value} {T9 : u_T} {ty0 : Nat → FieldType} {Q : QT} (hC : Call G M' d' MC' MS' (.ref (G.1 + o) :: av) sv vi vl Q) (hc : j_cls ci M'.1.cls T9 N ty0) (ho : Ob sv o ci) (ht : j_to M.1.cls index M' n) (w4 : Cond.instanceMethod M'.1 ∈ gtb) (w5 : Cond.selects M'.1.cls M'.1 M'.1 ∈ gtb) (hn : av.length = n) (hd : d' + 1 ≤ d) (hcs : cs + MC' ≤ MC) (hss : ss + MS' ≤ MS) {st : List Value} (hst9 : st = av.reverse ++ .ref (G.1 + o) :: rest) (hrest : (rest.map fun v => v.category).sum ≤ 8) (hdg : decode M.2.1 pc = .ok (.invokevirtual index, 3))
    (kk : ∀ r sv' vi' vl', Q r sv' vi' vl' → J G Γ (cs + MC') (ss + MS') (pc + 3) L (r.toList ++ rest) sv' vi' vl') : J G Γ cs ss pc L st sv vi vl := by
  obtain ⟨p, e, R, s, m, args, below, meth, c, Qw⟩ := Γ
  intro H locs ls hz hP hS hl9
  obtain ⟨hx, hb, hr, hml, hown, hts, hlk, hnm9, hR, hK, hst⟩ := B
  have S : CallFix p m c M.2.1 c.maxLocals s args gtb M.1.cls := ⟨hx, hb, rfl, hown, hts⟩
  have hrecv := va_recv hK hP hc.2.1 (a := G.1 + o) (q0 := o) (fs := j_fs G.1 sv vi ci o) ((j_wl_at ho.1).trans (by rw [j_en_o ho.2 hc.1]))
  refine j_run (va_runV (n := n) (As := av) (rest := rest) S hC ⟨j_cb (d := d) hts ht hd hR.1 hR.2.1, hts _ w4, hts _ w5⟩ ⟨j_frameBlind, hrecv, j_pre (l := 0) hK hst hz hP hS (.ref (G.1 + o) :: av)⟩ rfl hn hl9.1 hst9 (lv_room hrest) hdg ⟨Nat.le_trans hcs hR.2.2.1, Nat.le_trans hss hR.2.2.2⟩) rfl hS hl9 kk
/-- invokespecial of a constructor -/
theorem j_callI (B : Base G Γ M d MC MS) {M' : MI} {d' MC' MS' n index o : Nat} {av : List Value} {Q : QT} (hC : Call G M' d' MC' MS' (.ref (G.1 + o) :: av) sv vi vl Q) (hM : M'.2.2.2 = none ∧ M'.1.name = "<init>") (ht : j_to M.1.cls index M' n) (w4 : Cond.instanceMethod M'.1 ∈ gtb) (hn : av.length = n) (hd : d' + 1 ≤ d) (hcs : cs + MC' ≤ MC) (hss : ss + MS' ≤ MS) {st : List Value} (hst9 : st = av.reverse ++ .ref (G.1 + o) :: rest) (hrest : (rest.map fun v => v.category).sum ≤ 8) (hdg : decode M.2.1 pc = .ok (.invokespecial index, 3))
    (kk : ∀ r sv' vi' vl', Q r sv' vi' vl' → J G Γ (cs + MC') (ss + MS') (pc + 3) L (r.toList ++ rest) sv' vi' vl') : J G Γ cs ss pc L st sv vi vl := by
  obtain ⟨p, e, R, s, m, args, below, meth, c, Qw⟩ := Γ
  intro H locs ls hz hP hS hl9
  obtain ⟨hx, hb, hr, hml, hown, hts, hlk, hnm9, hR, hK, hst⟩ := B
  obtain ⟨⟨C', nm', ds'⟩, by', mL', rt'⟩ := M'
  obtain ⟨hrt, hnm'⟩ := hM
  dsimp only at hrt hnm'
  subst hrt
  have S : CallFix p m c M.2.1 c.maxLocals s args gtb M.1.cls := ⟨hx, hb, rfl, hown, hts⟩
  refine j_run (va_runI (n := n) (As := av) (rest := rest) S hC ⟨j_cb (d := d) hts ht hd hR.1 hR.2.1, hnm', hts _ w4⟩ ⟨j_frameBlind, j_pre (l := 0) hK hst hz hP hS (.ref (G.1 + o) :: av)⟩ rfl hn hl9.1 hst9 (lv_room hrest) hdg ⟨Nat.le_trans hcs hR.2.2.1, Nat.le_trans hss hR.2.2.2⟩) rfl hS hl9 kk
/-- invokespecial of a nest mate's private constructor -/
theorem j_callN (B : Base G Γ M d MC MS) {M' : MI} {d' MC' MS' n index o : Nat} {host : String} {av : List Value} {Q : QT} (hC : Call G M' d' MC' MS' (.ref (G.1 + o) :: av) sv vi vl Q) (hM : M'.2.2.2 = none ∧ M'.1.name = "<init>") (hw : (M.1.cls, index, M'.1, host) ∈ j_nests) (w1 : Cond.code M'.1 M'.2.1 M'.2.2.1 M'.2.2.2 ∈ gtb) (w2 : Cond.initialized M'.1.cls ∈ gtb) (hdd : M'.1.cls ≠ "java/lang/invoke/MethodHandle" ∧ M'.1.cls ≠ "java/lang/invoke/VarHandle" ∧ (parseMethodDescriptor M'.1.desc).map (fun d => d.parameters.length) = some n) (hml' : M'.2.2.1 ≤ 45) (w4 : Cond.instanceMethod M'.1 ∈ gtb) (hn : av.length = n) (hd : d' + 1 ≤ d) (hcs : cs + MC' ≤ MC) (hss : ss + MS' ≤ MS) {st : List Value} (hst9 : st = av.reverse ++ .ref (G.1 + o) :: rest) (hrest : (rest.map fun v => v.category).sum ≤ 8) (hdg : decode M.2.1 pc = .ok (.invokespecial index, 3))
    (kk : ∀ r sv' vi' vl', Q r sv' vi' vl' → J G Γ (cs + MC') (ss + MS') (pc + 3) L (r.toList ++ rest) sv' vi' vl') : J G Γ cs ss pc L st sv vi vl := by
  obtain ⟨p, e, R, s, m, args, below, meth, c, Qw⟩ := Γ
  intro H locs ls hz hP hS hl9
  obtain ⟨hx, hb, hr, hml, hown, hts, hlk, hnm9, hR, hK, hst⟩ := B
  obtain ⟨⟨C', nm', ds'⟩, by', mL', rt'⟩ := M'
  obtain ⟨hrt, hnm'⟩ := hM
  dsimp only at hrt hnm'
  subst hrt
  have S : CallFix p m c M.2.1 c.maxLocals s args gtb M.1.cls := ⟨hx, hb, rfl, hown, hts⟩
  have cw := va_cnB (R := R) (rm := j_rm d' MC' MS') n hts (j_good _ hts w1) rfl rfl rfl (hst.2.2.2.2.1 _ hw) (hts _ w2) hdd ⟨by show d' + 1 ≤ _; have := hR.1; omega, by show 8 + (_ + 11) + 64 * d' ≤ _; have := hR.2.1; dsimp only at hml' ⊢; omega⟩
  refine j_run (va_runIN (n := n) (As := av) (rest := rest) S hC ⟨cw, hnm', hts _ w4⟩ ⟨j_frameBlind, j_pre (l := 0) hK hst hz hP hS (.ref (G.1 + o) :: av)⟩ rfl hn hl9.1 hst9 (lv_room hrest) hdg ⟨Nat.le_trans hcs hR.2.2.1, Nat.le_trans hss hR.2.2.2⟩) rfl hS hl9 kk
/-- invokevirtual of a nest mate's private method -/
theorem j_callVM (B : Base G Γ M d MC MS) {M' : MI} {d' MC' MS' n index o ci N : Nat} {host : String} {av : List Value} {T9 : u_T} {ty0 : Nat → FieldType} {Q : QT} (hC : Call G M' d' MC' MS' (.ref (G.1 + o) :: av) sv vi vl Q) (hc : j_cls ci M'.1.cls T9 N ty0) (ho : Ob sv o ci) (hw : (M.1.cls, index, M'.1, host) ∈ j_nests) (w1 : Cond.code M'.1 M'.2.1 M'.2.2.1 M'.2.2.2 ∈ gtb) (w2 : Cond.initialized M'.1.cls ∈ gtb) (hdd : M'.1.cls ≠ "java/lang/invoke/MethodHandle" ∧ M'.1.cls ≠ "java/lang/invoke/VarHandle" ∧ (parseMethodDescriptor M'.1.desc).map (fun d => d.parameters.length) = some n) (hml' : M'.2.2.1 ≤ 45) (w4 : Cond.instanceMethod M'.1 ∈ gtb) (w5 : Cond.selects M'.1.cls M'.1 M'.1 ∈ gtb) (hn : av.length = n) (hd : d' + 1 ≤ d) (hcs : cs + MC' ≤ MC) (hss : ss + MS' ≤ MS) {st : List Value} (hst9 : st = av.reverse ++ .ref (G.1 + o) :: rest) (hrest : (rest.map fun v => v.category).sum ≤ 8) (hdg : decode M.2.1 pc = .ok (.invokevirtual index, 3))
    (kk : ∀ r sv' vi' vl', Q r sv' vi' vl' → J G Γ (cs + MC') (ss + MS') (pc + 3) L (r.toList ++ rest) sv' vi' vl') : J G Γ cs ss pc L st sv vi vl := by
  obtain ⟨p, e, R, s, m, args, below, meth, c, Qw⟩ := Γ
  intro H locs ls hz hP hS hl9
  obtain ⟨hx, hb, hr, hml, hown, hts, hlk, hnm9, hR, hK, hst⟩ := B
  have S : CallFix p m c M.2.1 c.maxLocals s args gtb M.1.cls := ⟨hx, hb, rfl, hown, hts⟩
  have hrecv := va_recv hK hP hc.2.1 (a := G.1 + o) (q0 := o) (fs := j_fs G.1 sv vi ci o) ((j_wl_at ho.1).trans (by rw [j_en_o ho.2 hc.1]))
  have cw := va_cnB (R := R) (rm := j_rm d' MC' MS') n hts (j_good M' hts w1) rfl rfl rfl (hst.2.2.2.2.1 _ hw) (hts _ w2) hdd ⟨by show d' + 1 ≤ _; have := hR.1; omega, by show 8 + (_ + 11) + 64 * d' ≤ _; have := hR.2.1; omega⟩
  refine j_run (va_runVN (n := n) (As := av) (rest := rest) S hC ⟨cw, hts _ w4, hts _ w5⟩ ⟨j_frameBlind, hrecv, j_pre (l := 0) hK hst hz hP hS (.ref (G.1 + o) :: av)⟩ rfl hn hl9.1 hst9 (lv_room hrest) hdg ⟨Nat.le_trans hcs hR.2.2.1, Nat.le_trans hss hR.2.2.2⟩) rfl hS hl9 kk
theorem j_objInit (B : Base G Γ M d MC MS) {o index : Nat} (w1 : Cond.methodLink M.1.cls index objectInit ∈ gtb) (w2 : Cond.instanceMethod objectInit ∈ gtb) (w3 : Cond.code objectInit ⟨#[0xb1]⟩ 1 none ∈ gtb) (hd : 1 ≤ d) (hdg : decode M.2.1 pc = .ok (.invokespecial index, 3)) (kk : J G Γ cs ss (pc + 3) L [] sv vi vl) : J G Γ cs ss pc L [.ref (G.1 + o)] sv vi vl := by
  obtain ⟨p, e, R, s, m, args, below, meth, c, Qw⟩ := Γ
  intro H locs ls hz hP hS hl9
  obtain ⟨hx, hb, hr, hml, hown, hts, hlk, hnm9, hR, hK, hst⟩ := B
  refine W.objInit hx hb hown (hts _ w1) (hts _ w2) (hts _ w3) rfl (by exact hl9.1) rfl hdg (by have := hR.1; omega) (by show 2 * 0 + _ + 12 ≤ _; have := hR.2.1; simp; omega) ?_
  exact kk H locs ls hz hP hS hl9
/-! ends -/
theorem j_iret (B : Base G Γ M d MC MS) {Q : QT} (E : Ends G Γ MC MS Q) (hty : M.2.2.2 = some .int) {v : Int32} (hdg : decode M.2.1 pc = .ok (.ireturn, 1)) (hcs : cs ≤ MC) (hss : ss ≤ MS) (hQ : Q (some (.int v)) sv vi vl) : J G Γ cs ss pc L [.int v] sv vi vl := by
  have hq := j_end B hQ
  obtain ⟨p, e, R, s, m, args, below, meth, c, Qw⟩ := Γ
  intro H locs ls hz hP hS hl9
  obtain ⟨hx, hb, hr, hml, hown, hts, hlk, hnm9, hR, hK, hst⟩ := B
  have E' : Qw = MQ below (j_Qc G Q) args s MC MS (fun q => G.1 ≤ q) := E
  subst E'
  exact W.widen hcs hss (W.iret hx hb (hr.trans hty) (hq H locs hz hP hS) hS.2.2 hdg hlk)
theorem j_zret (B : Base G Γ M d MC MS) {Q : QT} (E : Ends G Γ MC MS Q) (hty : M.2.2.2 = some .boolean) {v : Int32} (hv : v = 0 ∨ v = 1) (hdg : decode M.2.1 pc = .ok (.ireturn, 1)) (hcs : cs ≤ MC) (hss : ss ≤ MS) (hQ : Q (some (.int v)) sv vi vl) : J G Γ cs ss pc L [.int v] sv vi vl := by
  have hq := j_end B hQ
  obtain ⟨p, e, R, s, m, args, below, meth, c, Qw⟩ := Γ
  intro H locs ls hz hP hS hl9
  obtain ⟨hx, hb, hr, hml, hown, hts, hlk, hnm9, hR, hK, hst⟩ := B
  have E' : Qw = MQ below (j_Qc G Q) args s MC MS (fun q => G.1 ≤ q) := E
  subst E'
  exact W.widen hcs hss (W.zret hx hb (hr.trans hty) (by rcases hv with rfl | rfl <;> rfl) (hq H locs hz hP hS) hS.2.2 hdg hlk)
theorem j_lret (B : Base G Γ M d MC MS) {Q : QT} (E : Ends G Γ MC MS Q) (hty : M.2.2.2 = some .long) {v : Int64} (hdg : decode M.2.1 pc = .ok (.lreturn, 1)) (hcs : cs ≤ MC) (hss : ss ≤ MS) (hQ : Q (some (.long v)) sv vi vl) : J G Γ cs ss pc L [.long v] sv vi vl := by
  have hq := j_end B hQ
  obtain ⟨p, e, R, s, m, args, below, meth, c, Qw⟩ := Γ
  intro H locs ls hz hP hS hl9
  obtain ⟨hx, hb, hr, hml, hown, hts, hlk, hnm9, hR, hK, hst⟩ := B
  have E' : Qw = MQ below (j_Qc G Q) args s MC MS (fun q => G.1 ≤ q) := E
  subst E'
  exact W.widen hcs hss (W.lret hx hb (hr.trans hty) (hq H locs hz hP hS) hS.2.2 hdg hlk)
theorem j_aret (B : Base G Γ M d MC MS) {Q : QT} (E : Ends G Γ MC MS Q) {C : String} (hty : M.2.2.2 = some (.object C)) {v : Value} (hv : v = .null ∨ ∃ a, v = .ref a) (hdg : decode M.2.1 pc = .ok (.areturn, 1)) (hcs : cs ≤ MC) (hss : ss ≤ MS) (hQ : Q (some v) sv vi vl) : J G Γ cs ss pc L [v] sv vi vl := by
  have hq := j_end B hQ
  obtain ⟨p, e, R, s, m, args, below, meth, c, Qw⟩ := Γ
  intro H locs ls hz hP hS hl9
  obtain ⟨hx, hb, hr, hml, hown, hts, hlk, hnm9, hR, hK, hst⟩ := B
  have E' : Qw = MQ below (j_Qc G Q) args s MC MS (fun q => G.1 ≤ q) := E
  subst E'
  exact W.widen hcs hss (W.aret hx hb (hr.trans hty) (Or.inl ⟨C, rfl⟩) hv (hq H locs hz hP hS) hS.2.2 hdg hlk)
theorem j_vret (B : Base G Γ M d MC MS) {Q : QT} (E : Ends G Γ MC MS Q) (hty : M.2.2.2 = none) (hdg : decode M.2.1 pc = .ok (.return_, 1)) (hcs : cs ≤ MC) (hss : ss ≤ MS) (hQ : Q none sv vi vl) : J G Γ cs ss pc L [] sv vi vl := by
  have hq := j_end B hQ
  obtain ⟨p, e, R, s, m, args, below, meth, c, Qw⟩ := Γ
  intro H locs ls hz hP hS hl9
  obtain ⟨hx, hb, hr, hml, hown, hts, hlk, hnm9, hR, hK, hst⟩ := B
  have E' : Qw = MQ below (j_Qc G Q) args s MC MS (fun q => G.1 ≤ q) := E
  subst E'
  exact W.widen hcs hss (W.vret hx hb (hr.trans hty) (hq H locs hz hP hS) hS.2.2 hdg hlk)
/-! the two tables -/
theorem j_getOwn (B : Base G Γ M d MC MS) {index : Nat} (w1 : Cond.fieldLink M.1.cls index RX0 "OWN" "[I" ∈ gtb) (hdg : decode M.2.1 pc = .ok (.getstatic index, 3)) (kk : J G Γ cs ss (pc + 3) L (.ref G.2.2.2.1 :: rest) sv vi vl) : J G Γ cs ss pc L rest sv vi vl := by
  obtain ⟨p, e, R, s, m, args, below, meth, c, Qw⟩ := Γ
  intro H locs ls hz hP hS hl9
  obtain ⟨hx, hb, hr, hml, hown, hts, hlk, hnm9, hR, hK, hst⟩ := B
  exact va_gets hx hb hst.1 hS hown (hts _ w1) (fun _ h => h) hdg (kk H locs ls hz hP hS hl9)
theorem j_getAbv (B : Base G Γ M d MC MS) {index : Nat} (w1 : Cond.fieldLink M.1.cls index RX0 "ABOVE" "[I" ∈ gtb) (hdg : decode M.2.1 pc = .ok (.getstatic index, 3)) (kk : J G Γ cs ss (pc + 3) L (.ref G.2.2.2.2.1 :: rest) sv vi vl) : J G Γ cs ss pc L rest sv vi vl := by
  obtain ⟨p, e, R, s, m, args, below, meth, c, Qw⟩ := Γ
  intro H locs ls hz hP hS hl9
  obtain ⟨hx, hb, hr, hml, hown, hts, hlk, hnm9, hR, hK, hst⟩ := B
  exact va_gets hx hb hst.2.1 hS hown (hts _ w1) (fun _ h => h) hdg (kk H locs ls hz hP hS hl9)
theorem j_ldOwn (B : Base G Γ M d MC MS) {i : Int32} (hi : vp_in i 32) (hdg : decode M.2.1 pc = .ok (.iaload, 1)) (kk : J G Γ cs ss (pc + 1) L (.int (j_own i.toNatClampNeg) :: rest) sv vi vl) : J G Γ cs ss pc L (.int i :: .ref G.2.2.2.1 :: rest) sv vi vl := by
  obtain ⟨p, e, R, s, m, args, below, meth, c, Qw⟩ := Γ
  intro H locs ls hz hP hS hl9
  obtain ⟨hx, hb, hr, hml, hown, hts, hlk, hnm9, hR, hK, hst⟩ := B
  exact va_ti hx hb hst.2.2.1 hS hi rfl hdg (kk H locs ls hz hP hS hl9)
theorem j_ldAbv (B : Base G Γ M d MC MS) {i : Int32} (hi : vp_in i 8) (hdg : decode M.2.1 pc = .ok (.iaload, 1)) (kk : J G Γ cs ss (pc + 1) L (.int (j_abv i.toNatClampNeg) :: rest) sv vi vl) : J G Γ cs ss pc L (.int i :: .ref G.2.2.2.2.1 :: rest) sv vi vl := by
  obtain ⟨p, e, R, s, m, args, below, meth, c, Qw⟩ := Γ
  intro H locs ls hz hP hS hl9
  obtain ⟨hx, hb, hr, hml, hown, hts, hlk, hnm9, hR, hK, hst⟩ := B
  exact va_ti hx hb hst.2.2.2.1 hS hi rfl hdg (kk H locs ls hz hP hS hl9)
end JN
