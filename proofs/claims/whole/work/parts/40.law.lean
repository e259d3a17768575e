/-! THE CLAIM OUT OF ONE WALK OF THE LAW'S BODY. Your part is whole_start (and what it stands on); all else here is the same for every law, but numbers. -/
def R_law : String := "DustInOrderLaw"
def lw_P (b : Addr) (xs : List Int32) (args : Array Value) (s : State) : Prop := args = #[.ref b] ∧ s.IntsAt b xs ∧ xs.length ≤ 3072 ∧ (Jvm.Cond.and given_1 narrow_1).before args s = true
def lw_Q (_ : Array Value) (s : State) (o : Outcome) (t : State) : Prop := o = .returned (some (.int 1)) ∧ Framed s o t [] 600000 7302250
def lw_Z (below : List Frame) (a : Array Value) (s : State) : State → Prop := fun t => ∃ o, t.status = .running ∧ Ended t below o ∧ lw_Q a s o t
/-- the law's own end, with 1 on the stack, nothing written that was there before, its room as the claim has it -/
theorem lw_ret {p : Program} {l : Launch} {e : Env} {s : State} {m : MethodId} {below : List Frame} {meth : Method} {c : Code} {b : Nat} (hx : p.tables.exec = Jvm.exec) (hb : c.code = code) (hr : meth.sig.returnType = ret) (hlocks : meth.locks = false) {pc : Nat} {H : Heap} {ls : Array Slot} (hdg : decode code pc = .ok (.ireturn, 1)) : W p l e room_1 s m #[Value.ref b] below meth c H [] 600000 7302250 (lw_Z below #[Value.ref b] s) (F0 m pc ls [.int 1]) := by
  intro T hT X
  obtain ⟨fs, hret, hrun, hended, hW, hframe⟩ := X.leave (v := some (.int 1)) (hlocks := hlocks) (fun h => by rw [hr] at h; cases h)
  have hmeth' : T.vm.method? m = some meth := X.method'
  refine ⟨T.setFrames fs, ?_, .returned (some (.int 1)), hrun, hended, rfl, ⟨_, rfl⟩, hW, hframe⟩
  jvm_step X.here [X.here.top, hx, hb, hdg, hmeth', hr, ret, narrow_b1]
  (try refine ⟨rfl, ?_⟩); (try refine ⟨rfl, ?_⟩)
  first | (intro acts; rw [hret _ acts rfl rfl rfl]) | rw [hret _ _ rfl rfl rfl]
  exact Steps.refl _
/-- what holds at the law's entry: the machine, the code, the tables' words (any of lw_tbl by 'hts w (by decide +kernel)'), the script of L ints xs at the cell b, what the Statement gives of the start (any of its parts by flat_of_before) -/
def lw_At (p : Program) (s : State) (m : MethodId) (meth : Method) (c : Code) (b L : Nat) (xs : Nat → Int32) : Prop :=
  p.tables.exec = Jvm.exec ∧ c.code = code ∧ meth.sig.returnType = ret ∧ c.maxLocals = 4 ∧ s.vm.findClass R_law = some m.cls ∧ (∀ w ∈ lw_tbl, w.before #[Value.ref b] s = true) ∧ va_X b L xs s s.heap ∧ b < s.heap.size ∧ meth.locks = false ∧ (Jvm.Cond.and given_1 narrow_1).before #[Value.ref b] s = true
abbrev mL : MI := (yL_law, cL_law, 4, some .boolean)
/-- what the law has of its own: the script, its end -/
def LawAt (G : GT) (Γ : CT) (b L : Nat) (xs : Nat → Int32) : Prop := match Γ with
  | (p, _, R, s, _, args, below, meth, c, Qw) => va_X b L xs s s.heap ∧ b < s.heap.size ∧ s.heap.size = G.1 ∧ R = room_1 ∧ args = #[Value.ref b] ∧ Qw = lw_Z below #[Value.ref b] s ∧ meth.sig.returnType = ret
section JL
variable {G : GT} {Γ : CT} {d MC MS : Nat} {cs ss pc : Nat} {L : List (Nat × Value)} {rest : List Value} {sv : SV} {vi : VI} {vl : VL} {b Ls : Nat} {xs : Nat → Int32}
theorem j_sld (B : Base G Γ mL d MC MS) (A : LawAt G Γ b Ls xs) {i : Int32} (hi : vp_in i Ls) (hdg : decode cL_law pc = .ok (.iaload, 1)) (kk : J G Γ cs ss (pc + 1) L (.int (xs i.toNatClampNeg) :: rest) sv vi vl) : J G Γ cs ss pc L (.int i :: .ref b :: rest) sv vi vl := by
  obtain ⟨p, e, R, s, m, args, below, meth, c, Qw⟩ := Γ
  intro H locs ls hz hP hS hl9
  obtain ⟨hX, hbl, hsz, -⟩ := A
  exact va_sld B.1 B.2.1 hX hbl (by rw [← hsz]; exact Nat.not_le.mpr hbl) hS hi hdg (kk H locs ls hz hP hS hl9)
theorem j_slen (B : Base G Γ mL d MC MS) (A : LawAt G Γ b Ls xs) (hdg : decode cL_law pc = .ok (.arraylength, 1)) (kk : J G Γ cs ss (pc + 1) L (.int (Int32.ofNat Ls) :: rest) sv vi vl) : J G Γ cs ss pc L (.ref b :: rest) sv vi vl := by
  obtain ⟨p, e, R, s, m, args, below, meth, c, Qw⟩ := Γ
  intro H locs ls hz hP hS hl9
  obtain ⟨hX, hbl, hsz, -⟩ := A
  exact va_slen B.1 B.2.1 hX hbl (by rw [← hsz]; exact Nat.not_le.mpr hbl) hS hdg (kk H locs ls hz hP hS hl9)
theorem j_lawret (B : Base G Γ mL d MC MS) (A : LawAt G Γ b Ls xs) (hdg : decode cL_law pc = .ok (.ireturn, 1)) (hcs : cs ≤ 600000) (hss : ss ≤ 7302250) : J G Γ cs ss pc L [.int 1] sv vi vl := by
  obtain ⟨p, e, R, s, m, args, below, meth, c, Qw⟩ := Γ
  intro H locs ls hz hP hS hl9
  obtain ⟨hx, hb, hr, hml, hown, hts, hlk, hnm9, hR, hK, hst⟩ := B
  obtain ⟨hX, hbl, hsz, hR2, ha, hQ, hret⟩ := A
  subst hR2; subst ha; subst hQ
  refine va_forget (fun q hq => by have := hS.2.2 q hq; rw [hsz]; exact this) ?_
  exact W.widen hcs hss (lw_ret hx hb hret hlk hdg)
end JL
theorem lg_self (r : Int64) : lg_cmp r r = 0 := by
  simp [lg_cmp]
def OK0 (INV : Nat → VI → VL → Prop) : Prop := ∀ (ns : Nat) (sv : SV) (vi : VI) (vl : VL) (a0 : Int32) (a1 : Int32), WF sv ns → INV ns vi vl → ∃ (r : Int32) (sv1 : SV) (vi1 : VI) (vl1 : VL), fX9_sill a0 a1 sv vi vl = some (r, sv1, vi1, vl1) ∧ ∃ (vi2 : VI), fX10_sill a0 a1 vi1 = some (r, vi2) ∧ ∃ ns' : Nat, WF sv1 ns' ∧ INV ns' vi2 vl1
def OK1 (INV : Nat → VI → VL → Prop) : Prop := ∀ (ns : Nat) (sv : SV) (vi : VI) (vl : VL) (a0 : Int32) (a1 : Int32) (a2 : Int32), WF sv ns → INV ns vi vl → ∃ (r : Int32) (sv1 : SV) (vi1 : VI) (vl1 : VL), fX9_sills a0 a1 a2 sv vi vl = some (r, sv1, vi1, vl1) ∧ ∃ (vi2 : VI), fX10_sills a0 a1 a2 vi1 vl1 = some (r, vi2) ∧ ∃ ns' : Nat, WF sv1 ns' ∧ INV ns' vi2 vl1
def OK2 (INV : Nat → VI → VL → Prop) : Prop := ∀ (ns : Nat) (vi : VI) (vl : VL) (a0 : Int32) (a1 : Int32) (a2 : Int32), INV ns vi vl → ∃ (r : Int32) (vi1 : VI), fX9_mend ns a0 a1 a2 vi = some (r, vi1) ∧ ∃ (vi2 : VI), fX10_mend a0 a1 a2 vi1 = some (r, vi2) ∧ INV ns vi2 vl
def OK3 (INV : Nat → VI → VL → Prop) : Prop := ∀ (ns : Nat) (vi : VI) (vl : VL) (a0 : Int32) (a1 : Int32), INV ns vi vl → ∃ (r : Int32), fX9_of ns a0 a1 vi = some (r) ∧ ∃ (vi2 : VI), fX10_of a0 a1 vi = some (r, vi2) ∧ INV ns vi2 vl
def OK4 (INV : Nat → VI → VL → Prop) : Prop := ∀ (ns : Nat) (vi : VI) (vl : VL) (a0 : Int32) (a1 : Int32) (a2 : Int32), INV ns vi vl → ∃ (r : Int32), fX9_layer ns a0 a1 a2 vi = some (r) ∧ fX10_layer a0 a1 a2 vi = some (r) ∧ INV ns vi vl
def OK5 (INV : Nat → VI → VL → Prop) : Prop := ∀ (ns : Nat) (vi : VI) (vl : VL) (a0 : Int32), INV ns vi vl → ∃ (r : Int32) (vi1 : VI), fX9_feed a0 vi = some (r, vi1) ∧ ∃ (vi2 : VI), fX10_feed a0 vi1 = some (r, vi2) ∧ INV ns vi2 vl
def OK6 (INV : Nat → VI → VL → Prop) : Prop := ∀ (ns : Nat) (vi : VI) (vl : VL), INV ns vi vl → ∃ (r : Int32) (vi1 : VI), fX9_law ns  vi = some (r, vi1) ∧ ∃ (vi2 : VI), fX10_law  vi1 = some (r, vi2) ∧ INV ns vi2 vl
def OK7 (INV : Nat → VI → VL → Prop) : Prop := ∀ (ns : Nat) (vi : VI) (vl : VL) (a0 : Int32) (a1 : Int32), INV ns vi vl → ∃ (r : Int32) (vi1 : VI), fX9_lays ns a0 a1 vi = some (r, vi1) ∧ ∃ (vi2 : VI), fX10_lays a0 a1 vi1 = some (r, vi2) ∧ INV ns vi2 vl
def OK8 (INV : Nat → VI → VL → Prop) : Prop := ∀ (ns : Nat) (vi : VI) (vl : VL) (a0 : Int32) (a1 : Int32) (a2 : Int32) (a3 : Int32), INV ns vi vl → ∃ (r : Int32) (vi1 : VI), fX9_later ns a0 a1 a2 a3 vi vl = some (r, vi1) ∧ ∃ (vi2 : VI), fX10_later a0 a1 a2 a3 vi1 vl = some (r, vi2) ∧ INV ns vi2 vl
def OK9 (INV : Nat → VI → VL → Prop) : Prop := ∀ (ns : Nat) (vi : VI) (vl : VL) (a0 : Int32) (a1 : Int32) (a2 : Int32) (a3 : Int32), INV ns vi vl → ∃ (r : Int32) (vi1 : VI), fX9_laid ns a0 a1 a2 a3 vi vl = some (r, vi1) ∧ ∃ (vi2 : VI), fX10_laid a0 a1 a2 a3 vi1 vl = some (r, vi2) ∧ INV ns vi2 vl
def OK10 (INV : Nat → VI → VL → Prop) : Prop := ∀ (ns : Nat) (vi : VI) (vl : VL) (a0 : Int32) (a1 : Int32) (a2 : Int32), INV ns vi vl → ∃ (r : Int32) (vi1 : VI), fX9_breath ns a0 a1 a2 vi = some (r, vi1) ∧ ∃ (vi2 : VI), fX10_breath a0 a1 a2 vi1 = some (r, vi2) ∧ INV ns vi2 vl
def OK11 (INV : Nat → VI → VL → Prop) : Prop := ∀ (ns : Nat) (vi : VI) (vl : VL) (a0 : Int32) (a1 : Int32), INV ns vi vl → ∃ (r : Int32), fX9_clear ns a0 a1 vi = some (r) ∧ ∃ (vi2 : VI), fX10_clear a0 a1 vi = some (r, vi2) ∧ INV ns vi2 vl
def OK12 (INV : Nat → VI → VL → Prop) : Prop := ∀ (ns : Nat) (vi : VI) (vl : VL) (a0 : Int32) (a1 : Int32) (a2 : Int32), INV ns vi vl → ∃ (r : Int32) (vi1 : VI), fX9_touch ns a0 a1 a2 vi = some (r, vi1) ∧ ∃ (vi2 : VI), fX10_touch a0 a1 a2 vi1 = some (r, vi2) ∧ INV ns vi2 vl
def OK13 (INV : Nat → VI → VL → Prop) : Prop := ∀ (ns : Nat) (vi : VI) (vl : VL) (a0 : Int32), INV ns vi vl → ∃ (r : Int32), fX9_tellsOf ns a0 vi = some (r) ∧ ∃ (vi2 : VI), fX10_tellsOf a0 vi = some (r, vi2) ∧ INV ns vi2 vl
def OK14 (INV : Nat → VI → VL → Prop) : Prop := ∀ (ns : Nat) (vi : VI) (vl : VL) (a0 : Int32) (a1 : Int32), INV ns vi vl → ∃ (r : Int32), fX9_fewest ns a0 a1 vi = some (r) ∧ ∃ (vi2 : VI), fX10_fewest a0 a1 vi = some (r, vi2) ∧ INV ns vi2 vl
def OK15 (INV : Nat → VI → VL → Prop) : Prop := ∀ (ns : Nat) (vi : VI) (vl : VL), INV ns vi vl → ∃ (r : Int32), fX9_corner ns  vi = some (r) ∧ ∃ (vi2 : VI), fX10_corner  vi = some (r, vi2) ∧ INV ns vi2 vl
def OK16 (INV : Nat → VI → VL → Prop) : Prop := ∀ (ns : Nat) (vi : VI) (vl : VL) (a0 : Int32) (a1 : Int32), INV ns vi vl → ∃ (r : Int64) (vi1 : VI) (vl1 : VL), fX9_ways ns a0 a1 vi vl = some (r, vi1, vl1) ∧ ∃ (vi2 : VI) (vl2 : VL), fX10_ways a0 a1 vi1 vl1 = some (r, vi2, vl2) ∧ INV ns vi2 vl2
def OK17 (INV : Nat → VI → VL → Prop) : Prop := ∀ (ns : Nat) (vi : VI) (vl : VL) (a0 : Int32) (a1 : Int32) (a2 : Int32), INV ns vi vl → ∃ (r : Int32) (vi1 : VI) (vl1 : VL), fX9_first ns a0 a1 a2 vi vl = some (r, vi1, vl1) ∧ ∃ (vi2 : VI) (vl2 : VL), fX10_first a0 a1 a2 vi1 vl1 = some (r, vi2, vl2) ∧ INV ns vi2 vl2
def OK18 (INV : Nat → VI → VL → Prop) : Prop := ∀ (ns : Nat) (vi : VI) (vl : VL) (a0 : Int32), INV ns vi vl → ∃ (r : Int32) (vi1 : VI) (vl1 : VL), fX9_least ns a0 vi vl = some (r, vi1, vl1) ∧ ∃ (vi2 : VI) (vl2 : VL), fX10_least a0 vi1 vl1 = some (r, vi2, vl2) ∧ INV ns vi2 vl2
def OK19 (INV : Nat → VI → VL → Prop) : Prop := ∀ (ns : Nat) (vi : VI) (vl : VL) (a0 : Int32) (a1 : Int32), INV ns vi vl → ∃ (r : Int32) (vi1 : VI) (vl1 : VL), fX9_certain ns a0 a1 vi vl = some (r, vi1, vl1) ∧ ∃ (vi2 : VI) (vl2 : VL), fX10_certain a0 a1 vi1 vl1 = some (r, vi2, vl2) ∧ INV ns vi2 vl2
def OK20 (INV : Nat → VI → VL → Prop) : Prop := ∀ (ns : Nat) (vi : VI) (vl : VL) (a0 : Int32) (a1 : Int32), INV ns vi vl → ∃ (r : Int32) (vi1 : VI), fX9_alike ns a0 a1 vi = some (r, vi1) ∧ ∃ (vi2 : VI), fX10_alike a0 a1 vi1 = some (r, vi2) ∧ INV ns vi2 vl
def OK21 (INV : Nat → VI → VL → Prop) : Prop := ∀ (ns : Nat) (vi : VI) (vl : VL) (a0 : Int32), INV ns vi vl → ∃ (r : Int32), fX9_same ns a0 vi = some (r) ∧ fX10_same a0 vi = some (r) ∧ INV ns vi vl
def OK22 (INV : Nat → VI → VL → Prop) : Prop := ∀ (ns : Nat) (vi : VI) (vl : VL) (a0 : Int32) (a1 : Int32), INV ns vi vl → ∃ (r : Int64), fX9_likely ns a0 a1 vi = some (r) ∧ fX10_likely a0 a1 vi = some (r) ∧ INV ns vi vl
def OK23 (INV : Nat → VI → VL → Prop) : Prop := ∀ (ns : Nat) (vi : VI) (vl : VL), INV ns vi vl → ∃ (r : Int32), fX9_expected ns  vi = some (r) ∧ fX10_expected  vi = some (r) ∧ INV ns vi vl
def OK24 (INV : Nat → VI → VL → Prop) : Prop := ∀ (ns : Nat) (vi : VI) (vl : VL) (a0 : Int32) (a1 : Int32), INV ns vi vl → ∃ (r : Int32), fX9_judge ns a0 a1 vi vl = some (r) ∧ fX10_judge a0 a1 vi vl = some (r) ∧ INV ns vi vl
def OK25 (INV : Nat → VI → VL → Prop) : Prop := ∀ (ns : Nat) (vi : VI) (vl : VL) (a0 : Int32) (a1 : Int32) (a2 : Int32) (a3 : Int32), INV ns vi vl → ∃ (r : Int32) (vi1 : VI), fX9_drawn ns a0 a1 a2 a3 vi = some (r, vi1) ∧ ∃ (vi2 : VI), fX10_drawn a0 a1 a2 a3 vi1 = some (r, vi2) ∧ INV ns vi2 vl
def OK26 (INV : Nat → VI → VL → Prop) : Prop := ∀ (ns : Nat) (vi : VI) (vl : VL) (a0 : Int32), INV ns vi vl → ∃ (r : Int32) (vi1 : VI), fX9_look ns a0 vi = some (r, vi1) ∧ ∃ (vi2 : VI), fX10_look a0 vi1 = some (r, vi2) ∧ INV ns vi2 vl
def OK27 (INV : Nat → VI → VL → Prop) : Prop := ∀ (ns : Nat) (vi : VI) (vl : VL) (a0 : Int32) (a1 : Int32), INV ns vi vl → ∃ (r : Int32) (vi1 : VI), fX9_blow ns a0 a1 vi = some (r, vi1) ∧ ∃ (vi2 : VI), fX10_blow a0 a1 vi1 = some (r, vi2) ∧ INV ns vi2 vl
def OK28 (INV : Nat → VI → VL → Prop) : Prop := ∀ (ns : Nat) (vi : VI) (vl : VL) (a0 : Int32), INV ns vi vl → ∃ (r : Int32) (vi1 : VI), fX9_sweep ns a0 vi = some (r, vi1) ∧ ∃ (vi2 : VI), fX10_sweep a0 vi1 = some (r, vi2) ∧ INV ns vi2 vl
def OK29 (INV : Nat → VI → VL → Prop) : Prop := ∀ (ns : Nat) (vi : VI) (vl : VL) (a0 : Int32), INV ns vi vl → ∃ (r : Int32), fX9_led a0 vi = some (r) ∧ fX10_led a0 vi = some (r) ∧ INV ns vi vl
def OK30 (INV : Nat → VI → VL → Prop) : Prop := ∀ (ns : Nat) (vi : VI) (vl : VL), INV ns vi vl → ∃ (r : Int32) (vi1 : VI), fX9_image ns  vi = some (r, vi1) ∧ ∃ (vi2 : VI), fX10_image  vi1 = some (r, vi2) ∧ INV ns vi2 vl
def OK31 (INV : Nat → VI → VL → Prop) : Prop := ∀ (ns : Nat) (vi : VI) (vl : VL), INV ns vi vl → ∃ (r : Int32) (vi1 : VI), fX9_back ns  vi = some (r, vi1) ∧ ∃ (vi2 : VI), fX10_back  vi1 = some (r, vi2) ∧ INV ns vi2 vl
def OK32 (INV : Nat → VI → VL → Prop) : Prop := ∀ (ns : Nat) (vi : VI) (vl : VL), INV ns vi vl → ∃ (r : Int32) (vi1 : VI), fX9_undo ns  vi = some (r, vi1) ∧ ∃ (vi2 : VI), fX10_undo  vi1 = some (r, vi2) ∧ INV ns vi2 vl
def OK33 (INV : Nat → VI → VL → Prop) : Prop := ∀ (ns : Nat) (vi : VI) (vl : VL), INV ns vi vl → ∃ (r : Int32) (vi1 : VI), fX9_redo ns  vi = some (r, vi1) ∧ ∃ (vi2 : VI), fX10_redo  vi1 = some (r, vi2) ∧ INV ns vi2 vl
def OK34 (INV : Nat → VI → VL → Prop) : Prop := ∀ (ns : Nat) (vi : VI) (vl : VL) (a0 : Int32), INV ns vi vl → ∃ (r : Int32) (vi1 : VI), fX9_body a0 vi = some (r, vi1) ∧ ∃ (vi2 : VI), fX10_body a0 vi1 = some (r, vi2) ∧ INV ns vi2 vl
def OK35 (INV : Nat → VI → VL → Prop) : Prop := ∀ (ns : Nat) (vi : VI) (vl : VL) (a0 : Int32) (a1 : Int32) (a2 : Int32), INV ns vi vl → ∃ (r : Int32) (vi1 : VI), fX9_act a0 a1 a2 vi = some (r, vi1) ∧ ∃ (vi2 : VI), fX10_act a0 a1 a2 vi1 = some (r, vi2) ∧ INV ns vi2 vl
def OK36 (INV : Nat → VI → VL → Prop) : Prop := ∀ (ns : Nat) (vi : VI) (vl : VL) (a0 : Int32), INV ns vi vl → ∃ (r : Int32), fX9_trace a0 vi = some (r) ∧ fX10_trace a0 vi = some (r) ∧ INV ns vi vl
def OK37 (INV : Nat → VI → VL → Prop) : Prop := ∀ (ns : Nat) (vi : VI) (vl : VL) (a0 : Int32) (a1 : Int32), INV ns vi vl → ∃ (r : Int32) (vi1 : VI), fX9_keep a0 a1 vi = some (r, vi1) ∧ ∃ (vi2 : VI), fX10_keep a0 a1 vi1 = some (r, vi2) ∧ INV ns vi2 vl
def OK38 (INV : Nat → VI → VL → Prop) : Prop := ∀ (ns : Nat) (vi : VI) (vl : VL) (a0 : Int32) (a1 : Int32) (a2 : Int32), INV ns vi vl → ∃ (r : Int32) (vi1 : VI) (vl1 : VL), fX9_row a0 a1 a2 vi vl = some (r, vi1, vl1) ∧ ∃ (vi2 : VI) (vl2 : VL), fX10_row a0 a1 a2 vi1 vl1 = some (r, vi2, vl2) ∧ INV ns vi2 vl2
def OK39 (INV : Nat → VI → VL → Prop) : Prop := ∀ (ns : Nat) (vi : VI) (vl : VL) (a0 : Int32) (a1 : Int32) (a2 : Int64), INV ns vi vl → ∃ (r : Int32) (vl1 : VL), fX9_put a0 a1 a2 vi vl = some (r, vl1) ∧ ∃ (vl2 : VL), fX10_put a0 a1 a2 vi vl1 = some (r, vl2) ∧ INV ns vi vl2
def OK40 (INV : Nat → VI → VL → Prop) : Prop := ∀ (ns : Nat) (vi : VI) (vl : VL) (a0 : Int32) (a1 : Int32), INV ns vi vl → ∃ (r : Int64), fX9_element a0 a1 vi vl = some (r) ∧ fX10_element a0 a1 vi vl = some (r) ∧ INV ns vi vl
def OK41 (INV : Nat → VI → VL → Prop) : Prop := ∀ (ns : Nat) (vi : VI) (vl : VL) (a0 : Int32) (a1 : Int32) (a2 : Int32) (a3 : Int32) (a4 : Int32), INV ns vi vl → ∃ (r : Int32) (vl1 : VL), fX9_shift a0 a1 a2 a3 a4 vi vl = some (r, vl1) ∧ ∃ (vl2 : VL), fX10_shift a0 a1 a2 a3 a4 vi vl1 = some (r, vl2) ∧ INV ns vi vl2
def OK42 (INV : Nat → VI → VL → Prop) : Prop := ∀ (ns : Nat) (vi : VI) (vl : VL) (a0 : Int32) (a1 : Int32), INV ns vi vl → ∃ (r : Int32), fX9_taken a0 a1 vi = some (r) ∧ fX10_taken a0 a1 vi = some (r) ∧ INV ns vi vl
def OK43 (INV : Nat → VI → VL → Prop) : Prop := ∀ (ns : Nat) (vi : VI) (vl : VL) (a0 : Int32), INV ns vi vl → ∃ (r : Int32), fX9_count a0 vi = some (r) ∧ fX10_count a0 vi = some (r) ∧ INV ns vi vl
def OKall (INV : Nat → VI → VL → Prop) : Prop := OK0 INV ∧ OK1 INV ∧ OK2 INV ∧ OK3 INV ∧ OK4 INV ∧ OK5 INV ∧ OK6 INV ∧ OK7 INV ∧ OK8 INV ∧ OK9 INV ∧ OK10 INV ∧ OK11 INV ∧ OK12 INV ∧ OK13 INV ∧ OK14 INV ∧ OK15 INV ∧ OK16 INV ∧ OK17 INV ∧ OK18 INV ∧ OK19 INV ∧ OK20 INV ∧ OK21 INV ∧ OK22 INV ∧ OK23 INV ∧ OK24 INV ∧ OK25 INV ∧ OK26 INV ∧ OK27 INV ∧ OK28 INV ∧ OK29 INV ∧ OK30 INV ∧ OK31 INV ∧ OK32 INV ∧ OK33 INV ∧ OK34 INV ∧ OK35 INV ∧ OK36 INV ∧ OK37 INV ∧ OK38 INV ∧ OK39 INV ∧ OK40 INV ∧ OK41 INV ∧ OK42 INV ∧ OK43 INV
theorem lwc_0 {G : GT} {Γ : CT} {MC MS cs ss b Ls ns : Nat} {xs : Nat → Int32} {sv : SV} {vi : VI} {vl : VL} {x3 : Int32} {INV : Nat → VI → VL → Prop} (B : Base G Γ mL 1300 MC MS) (A : LawAt G Γ b Ls xs) (hin1 : vp_in (x3 + 1) Ls) (hin2 : vp_in (x3 + 2) Ls) (hin3 : vp_in (x3 + 3) Ls) (hin4 : vp_in (x3 + 4) Ls) (hin5 : vp_in (x3 + 5) Ls) (hcs : cs + 25 ≤ MC) (hss : ss + 4060 ≤ MS) (hW : WF sv ns) (hI : INV ns vi vl) (hok : OK0 INV)
    (kk : ∀ (sv1 : SV) (vi1 : VI) (vl1 : VL) (ns1 : Nat), WF sv1 ns1 → INV ns1 vi1 vl1 → ∀ cs1 ss1 : Nat, cs1 ≤ cs + 25 → ss1 ≤ ss + 4060 → J G Γ cs1 ss1 1649 [(0, .ref b), (1, .ref (G.1 + 0)), (2, .ref (G.1 + 63)), (3, .int x3)] [] sv1 vi1 vl1) : J G Γ cs ss 224 [(0, .ref b), (1, .ref (G.1 + 0)), (2, .ref (G.1 + 63)), (3, .int x3)] [] sv vi vl := by
  obtain ⟨r, sv1, vi1, vl1, hrx, vi2, hry, ns', hW1, hI1⟩ := hok ns sv vi vl (xs (x3 + 1).toNatClampNeg) (xs (x3 + 2).toNatClampNeg) hW hI
  refine j_aload_n B dL_law_224 rfl 1 rfl ?_
  refine j_aload_n B dL_law_225 rfl 0 rfl ?_
  refine j_iload_n B dL_law_226 rfl 3 rfl ?_
  refine j_iconst B dL_law_227 (v := 1) (by decide) ?_
  refine j_iadd B dL_law_228 ?_
  refine j_sld B A hin1 dL_law_229 ?_
  refine j_aload_n B dL_law_230 rfl 0 rfl ?_
  refine j_iload_n B dL_law_231 rfl 3 rfl ?_
  refine j_iconst B dL_law_232 (v := 2) (by decide) ?_
  refine j_iadd B dL_law_233 ?_
  refine j_sld B A hin2 dL_law_234 ?_
  refine j_cWI (rest := []) B (tX9_sill hrx) cls9 (wf_2 hW) jt_RL_13 wi_X9_sill ws_X9_sill rfl (by omega) (by omega) (by omega) rfl (Nat.le_of_ble_eq_true rfl) dL_law_235 ?_
  refine j_aload_n B dL_law_238 rfl 2 rfl ?_
  refine j_aload_n B dL_law_239 rfl 0 rfl ?_
  refine j_iload_n B dL_law_240 rfl 3 rfl ?_
  refine j_iconst B dL_law_241 (v := 1) (by decide) ?_
  refine j_iadd B dL_law_242 ?_
  refine j_sld B A hin1 dL_law_243 ?_
  refine j_aload_n B dL_law_244 rfl 0 rfl ?_
  refine j_iload_n B dL_law_245 rfl 3 rfl ?_
  refine j_iconst B dL_law_246 (v := 2) (by decide) ?_
  refine j_iadd B dL_law_247 ?_
  refine j_sld B A hin2 dL_law_248 ?_
  refine j_cVI (rest := [.int r]) B (tX10_sill hW1 hry) cls10 (wf_65 hW1) jt_RL_17 wi_X10_sill ws_X10_sill rfl (by omega) (by omega) (by omega) rfl (Nat.le_of_ble_eq_true rfl) dL_law_249 ?_
  refine j_icmp_eq (tgt := 1649) B dL_law_252 (by decide) (fun _ => ?_) (fun c => absurd rfl c)
  exact kk sv1 vi2 vl1 ns' hW1 hI1 (cs + 5) (ss + 812) (by omega) (by omega)
theorem lwc_1 {G : GT} {Γ : CT} {MC MS cs ss b Ls ns : Nat} {xs : Nat → Int32} {sv : SV} {vi : VI} {vl : VL} {x3 : Int32} {INV : Nat → VI → VL → Prop} (B : Base G Γ mL 1300 MC MS) (A : LawAt G Γ b Ls xs) (hin1 : vp_in (x3 + 1) Ls) (hin2 : vp_in (x3 + 2) Ls) (hin3 : vp_in (x3 + 3) Ls) (hin4 : vp_in (x3 + 4) Ls) (hin5 : vp_in (x3 + 5) Ls) (hcs : cs + 25 ≤ MC) (hss : ss + 4060 ≤ MS) (hW : WF sv ns) (hI : INV ns vi vl) (hok : OK1 INV)
    (kk : ∀ (sv1 : SV) (vi1 : VI) (vl1 : VL) (ns1 : Nat), WF sv1 ns1 → INV ns1 vi1 vl1 → ∀ cs1 ss1 : Nat, cs1 ≤ cs + 25 → ss1 ≤ ss + 4060 → J G Γ cs1 ss1 1649 [(0, .ref b), (1, .ref (G.1 + 0)), (2, .ref (G.1 + 63)), (3, .int x3)] [] sv1 vi1 vl1) : J G Γ cs ss 257 [(0, .ref b), (1, .ref (G.1 + 0)), (2, .ref (G.1 + 63)), (3, .int x3)] [] sv vi vl := by
  obtain ⟨r, sv1, vi1, vl1, hrx, vi2, hry, ns', hW1, hI1⟩ := hok ns sv vi vl (xs (x3 + 1).toNatClampNeg) (xs (x3 + 2).toNatClampNeg) (xs (x3 + 3).toNatClampNeg) hW hI
  refine j_aload_n B dL_law_257 rfl 1 rfl ?_
  refine j_aload_n B dL_law_258 rfl 0 rfl ?_
  refine j_iload_n B dL_law_259 rfl 3 rfl ?_
  refine j_iconst B dL_law_260 (v := 1) (by decide) ?_
  refine j_iadd B dL_law_261 ?_
  refine j_sld B A hin1 dL_law_262 ?_
  refine j_aload_n B dL_law_263 rfl 0 rfl ?_
  refine j_iload_n B dL_law_264 rfl 3 rfl ?_
  refine j_iconst B dL_law_265 (v := 2) (by decide) ?_
  refine j_iadd B dL_law_266 ?_
  refine j_sld B A hin2 dL_law_267 ?_
  refine j_aload_n B dL_law_268 rfl 0 rfl ?_
  refine j_iload_n B dL_law_269 rfl 3 rfl ?_
  refine j_iconst B dL_law_270 (v := 3) (by decide) ?_
  refine j_iadd B dL_law_271 ?_
  refine j_sld B A hin3 dL_law_272 ?_
  refine j_cWI (rest := []) B (tX9_sills hrx) cls9 (wf_2 hW) jt_RL_18 wi_X9_sills ws_X9_sills rfl (by omega) (by omega) (by omega) rfl (Nat.le_of_ble_eq_true rfl) dL_law_273 ?_
  refine j_aload_n B dL_law_276 rfl 2 rfl ?_
  refine j_aload_n B dL_law_277 rfl 0 rfl ?_
  refine j_iload_n B dL_law_278 rfl 3 rfl ?_
  refine j_iconst B dL_law_279 (v := 1) (by decide) ?_
  refine j_iadd B dL_law_280 ?_
  refine j_sld B A hin1 dL_law_281 ?_
  refine j_aload_n B dL_law_282 rfl 0 rfl ?_
  refine j_iload_n B dL_law_283 rfl 3 rfl ?_
  refine j_iconst B dL_law_284 (v := 2) (by decide) ?_
  refine j_iadd B dL_law_285 ?_
  refine j_sld B A hin2 dL_law_286 ?_
  refine j_aload_n B dL_law_287 rfl 0 rfl ?_
  refine j_iload_n B dL_law_288 rfl 3 rfl ?_
  refine j_iconst B dL_law_289 (v := 3) (by decide) ?_
  refine j_iadd B dL_law_290 ?_
  refine j_sld B A hin3 dL_law_291 ?_
  refine j_cVI (rest := [.int r]) B (tX10_sills hW1 hry) cls10 (wf_65 hW1) jt_RL_22 wi_X10_sills ws_X10_sills rfl (by omega) (by omega) (by omega) rfl (Nat.le_of_ble_eq_true rfl) dL_law_292 ?_
  refine j_icmp_eq (tgt := 1649) B dL_law_295 (by decide) (fun _ => ?_) (fun c => absurd rfl c)
  exact kk sv1 vi2 vl1 ns' hW1 hI1 (cs + 25) (ss + 4060) (by omega) (by omega)
theorem lwc_2 {G : GT} {Γ : CT} {MC MS cs ss b Ls ns : Nat} {xs : Nat → Int32} {sv : SV} {vi : VI} {vl : VL} {x3 : Int32} {INV : Nat → VI → VL → Prop} (B : Base G Γ mL 1300 MC MS) (A : LawAt G Γ b Ls xs) (hin1 : vp_in (x3 + 1) Ls) (hin2 : vp_in (x3 + 2) Ls) (hin3 : vp_in (x3 + 3) Ls) (hin4 : vp_in (x3 + 4) Ls) (hin5 : vp_in (x3 + 5) Ls) (hcs : cs + 25 ≤ MC) (hss : ss + 4060 ≤ MS) (hW : WF sv ns) (hI : INV ns vi vl) (hok : OK2 INV)
    (kk : ∀ (sv1 : SV) (vi1 : VI) (vl1 : VL) (ns1 : Nat), WF sv1 ns1 → INV ns1 vi1 vl1 → ∀ cs1 ss1 : Nat, cs1 ≤ cs + 25 → ss1 ≤ ss + 4060 → J G Γ cs1 ss1 1649 [(0, .ref b), (1, .ref (G.1 + 0)), (2, .ref (G.1 + 63)), (3, .int x3)] [] sv1 vi1 vl1) : J G Γ cs ss 300 [(0, .ref b), (1, .ref (G.1 + 0)), (2, .ref (G.1 + 63)), (3, .int x3)] [] sv vi vl := by
  obtain ⟨r, vi1, hrx, vi2, hry, hI1⟩ := hok ns vi vl (xs (x3 + 1).toNatClampNeg) (xs (x3 + 2).toNatClampNeg) (xs (x3 + 3).toNatClampNeg) hI
  refine j_aload_n B dL_law_300 rfl 1 rfl ?_
  refine j_aload_n B dL_law_301 rfl 0 rfl ?_
  refine j_iload_n B dL_law_302 rfl 3 rfl ?_
  refine j_iconst B dL_law_303 (v := 1) (by decide) ?_
  refine j_iadd B dL_law_304 ?_
  refine j_sld B A hin1 dL_law_305 ?_
  refine j_aload_n B dL_law_306 rfl 0 rfl ?_
  refine j_iload_n B dL_law_307 rfl 3 rfl ?_
  refine j_iconst B dL_law_308 (v := 2) (by decide) ?_
  refine j_iadd B dL_law_309 ?_
  refine j_sld B A hin2 dL_law_310 ?_
  refine j_aload_n B dL_law_311 rfl 0 rfl ?_
  refine j_iload_n B dL_law_312 rfl 3 rfl ?_
  refine j_iconst B dL_law_313 (v := 3) (by decide) ?_
  refine j_iadd B dL_law_314 ?_
  refine j_sld B A hin3 dL_law_315 ?_
  refine j_cVI (rest := []) B (tX9_mend hW hrx) cls9 (wf_2 hW) jt_RL_23 wi_X9_mend ws_X9_mend rfl (by omega) (by omega) (by omega) rfl (Nat.le_of_ble_eq_true rfl) dL_law_316 ?_
  refine j_aload_n B dL_law_319 rfl 2 rfl ?_
  refine j_aload_n B dL_law_320 rfl 0 rfl ?_
  refine j_iload_n B dL_law_321 rfl 3 rfl ?_
  refine j_iconst B dL_law_322 (v := 1) (by decide) ?_
  refine j_iadd B dL_law_323 ?_
  refine j_sld B A hin1 dL_law_324 ?_
  refine j_aload_n B dL_law_325 rfl 0 rfl ?_
  refine j_iload_n B dL_law_326 rfl 3 rfl ?_
  refine j_iconst B dL_law_327 (v := 2) (by decide) ?_
  refine j_iadd B dL_law_328 ?_
  refine j_sld B A hin2 dL_law_329 ?_
  refine j_aload_n B dL_law_330 rfl 0 rfl ?_
  refine j_iload_n B dL_law_331 rfl 3 rfl ?_
  refine j_iconst B dL_law_332 (v := 3) (by decide) ?_
  refine j_iadd B dL_law_333 ?_
  refine j_sld B A hin3 dL_law_334 ?_
  refine j_cVI (rest := [.int r]) B (tX10_mend hW hry) cls10 (wf_65 hW) jt_RL_26 wi_X10_mend ws_X10_mend rfl (by omega) (by omega) (by omega) rfl (Nat.le_of_ble_eq_true rfl) dL_law_335 ?_
  refine j_icmp_eq (tgt := 1649) B dL_law_338 (by decide) (fun _ => ?_) (fun c => absurd rfl c)
  exact kk sv vi2 vl ns hW hI1 cs ss (by omega) (by omega)
theorem lwc_3 {G : GT} {Γ : CT} {MC MS cs ss b Ls ns : Nat} {xs : Nat → Int32} {sv : SV} {vi : VI} {vl : VL} {x3 : Int32} {INV : Nat → VI → VL → Prop} (B : Base G Γ mL 1300 MC MS) (A : LawAt G Γ b Ls xs) (hin1 : vp_in (x3 + 1) Ls) (hin2 : vp_in (x3 + 2) Ls) (hin3 : vp_in (x3 + 3) Ls) (hin4 : vp_in (x3 + 4) Ls) (hin5 : vp_in (x3 + 5) Ls) (hcs : cs + 25 ≤ MC) (hss : ss + 4060 ≤ MS) (hW : WF sv ns) (hI : INV ns vi vl) (hok : OK3 INV)
    (kk : ∀ (sv1 : SV) (vi1 : VI) (vl1 : VL) (ns1 : Nat), WF sv1 ns1 → INV ns1 vi1 vl1 → ∀ cs1 ss1 : Nat, cs1 ≤ cs + 25 → ss1 ≤ ss + 4060 → J G Γ cs1 ss1 1649 [(0, .ref b), (1, .ref (G.1 + 0)), (2, .ref (G.1 + 63)), (3, .int x3)] [] sv1 vi1 vl1) : J G Γ cs ss 343 [(0, .ref b), (1, .ref (G.1 + 0)), (2, .ref (G.1 + 63)), (3, .int x3)] [] sv vi vl := by
  obtain ⟨r, hrx, vi2, hry, hI1⟩ := hok ns vi vl (xs (x3 + 1).toNatClampNeg) (xs (x3 + 2).toNatClampNeg) hI
  refine j_aload_n B dL_law_343 rfl 1 rfl ?_
  refine j_aload_n B dL_law_344 rfl 0 rfl ?_
  refine j_iload_n B dL_law_345 rfl 3 rfl ?_
  refine j_iconst B dL_law_346 (v := 1) (by decide) ?_
  refine j_iadd B dL_law_347 ?_
  refine j_sld B A hin1 dL_law_348 ?_
  refine j_aload_n B dL_law_349 rfl 0 rfl ?_
  refine j_iload_n B dL_law_350 rfl 3 rfl ?_
  refine j_iconst B dL_law_351 (v := 2) (by decide) ?_
  refine j_iadd B dL_law_352 ?_
  refine j_sld B A hin2 dL_law_353 ?_
  refine j_cVI (rest := []) B (tX9_of hW hrx) cls9 (wf_2 hW) jt_RL_27 wi_X9_of ws_X9_of rfl (by omega) (by omega) (by omega) rfl (Nat.le_of_ble_eq_true rfl) dL_law_354 ?_
  refine j_aload_n B dL_law_357 rfl 2 rfl ?_
  refine j_aload_n B dL_law_358 rfl 0 rfl ?_
  refine j_iload_n B dL_law_359 rfl 3 rfl ?_
  refine j_iconst B dL_law_360 (v := 1) (by decide) ?_
  refine j_iadd B dL_law_361 ?_
  refine j_sld B A hin1 dL_law_362 ?_
  refine j_aload_n B dL_law_363 rfl 0 rfl ?_
  refine j_iload_n B dL_law_364 rfl 3 rfl ?_
  refine j_iconst B dL_law_365 (v := 2) (by decide) ?_
  refine j_iadd B dL_law_366 ?_
  refine j_sld B A hin2 dL_law_367 ?_
  refine j_cVI (rest := [.int r]) B (tX10_of hW hry) cls10 (wf_65 hW) jt_RL_30 wi_X10_of ws_X10_of rfl (by omega) (by omega) (by omega) rfl (Nat.le_of_ble_eq_true rfl) dL_law_368 ?_
  refine j_icmp_eq (tgt := 1649) B dL_law_371 (by decide) (fun _ => ?_) (fun c => absurd rfl c)
  exact kk sv vi2 vl ns hW hI1 cs ss (by omega) (by omega)
theorem lwc_4 {G : GT} {Γ : CT} {MC MS cs ss b Ls ns : Nat} {xs : Nat → Int32} {sv : SV} {vi : VI} {vl : VL} {x3 : Int32} {INV : Nat → VI → VL → Prop} (B : Base G Γ mL 1300 MC MS) (A : LawAt G Γ b Ls xs) (hin1 : vp_in (x3 + 1) Ls) (hin2 : vp_in (x3 + 2) Ls) (hin3 : vp_in (x3 + 3) Ls) (hin4 : vp_in (x3 + 4) Ls) (hin5 : vp_in (x3 + 5) Ls) (hcs : cs + 25 ≤ MC) (hss : ss + 4060 ≤ MS) (hW : WF sv ns) (hI : INV ns vi vl) (hok : OK4 INV)
    (kk : ∀ (sv1 : SV) (vi1 : VI) (vl1 : VL) (ns1 : Nat), WF sv1 ns1 → INV ns1 vi1 vl1 → ∀ cs1 ss1 : Nat, cs1 ≤ cs + 25 → ss1 ≤ ss + 4060 → J G Γ cs1 ss1 1649 [(0, .ref b), (1, .ref (G.1 + 0)), (2, .ref (G.1 + 63)), (3, .int x3)] [] sv1 vi1 vl1) : J G Γ cs ss 376 [(0, .ref b), (1, .ref (G.1 + 0)), (2, .ref (G.1 + 63)), (3, .int x3)] [] sv vi vl := by
  obtain ⟨r, hrx, hry, hI1⟩ := hok ns vi vl (xs (x3 + 1).toNatClampNeg) (xs (x3 + 2).toNatClampNeg) (xs (x3 + 3).toNatClampNeg) hI
  refine j_aload_n B dL_law_376 rfl 1 rfl ?_
  refine j_aload_n B dL_law_377 rfl 0 rfl ?_
  refine j_iload_n B dL_law_378 rfl 3 rfl ?_
  refine j_iconst B dL_law_379 (v := 1) (by decide) ?_
  refine j_iadd B dL_law_380 ?_
  refine j_sld B A hin1 dL_law_381 ?_
  refine j_aload_n B dL_law_382 rfl 0 rfl ?_
  refine j_iload_n B dL_law_383 rfl 3 rfl ?_
  refine j_iconst B dL_law_384 (v := 2) (by decide) ?_
  refine j_iadd B dL_law_385 ?_
  refine j_sld B A hin2 dL_law_386 ?_
  refine j_aload_n B dL_law_387 rfl 0 rfl ?_
  refine j_iload_n B dL_law_388 rfl 3 rfl ?_
  refine j_iconst B dL_law_389 (v := 3) (by decide) ?_
  refine j_iadd B dL_law_390 ?_
  refine j_sld B A hin3 dL_law_391 ?_
  refine j_cVI (rest := []) B (tX9_layer hW hrx) cls9 (wf_2 hW) jt_RL_31 wi_X9_layer ws_X9_layer rfl (by omega) (by omega) (by omega) rfl (Nat.le_of_ble_eq_true rfl) dL_law_392 ?_
  refine j_aload_n B dL_law_395 rfl 2 rfl ?_
  refine j_aload_n B dL_law_396 rfl 0 rfl ?_
  refine j_iload_n B dL_law_397 rfl 3 rfl ?_
  refine j_iconst B dL_law_398 (v := 1) (by decide) ?_
  refine j_iadd B dL_law_399 ?_
  refine j_sld B A hin1 dL_law_400 ?_
  refine j_aload_n B dL_law_401 rfl 0 rfl ?_
  refine j_iload_n B dL_law_402 rfl 3 rfl ?_
  refine j_iconst B dL_law_403 (v := 2) (by decide) ?_
  refine j_iadd B dL_law_404 ?_
  refine j_sld B A hin2 dL_law_405 ?_
  refine j_aload_n B dL_law_406 rfl 0 rfl ?_
  refine j_iload_n B dL_law_407 rfl 3 rfl ?_
  refine j_iconst B dL_law_408 (v := 3) (by decide) ?_
  refine j_iadd B dL_law_409 ?_
  refine j_sld B A hin3 dL_law_410 ?_
  refine j_cVI (rest := [.int r]) B (tX10_layer hW hry) cls10 (wf_65 hW) jt_RL_34 wi_X10_layer ws_X10_layer rfl (by omega) (by omega) (by omega) rfl (Nat.le_of_ble_eq_true rfl) dL_law_411 ?_
  refine j_icmp_eq (tgt := 1649) B dL_law_414 (by decide) (fun _ => ?_) (fun c => absurd rfl c)
  exact kk sv vi vl ns hW hI1 cs ss (by omega) (by omega)
theorem lwc_5 {G : GT} {Γ : CT} {MC MS cs ss b Ls ns : Nat} {xs : Nat → Int32} {sv : SV} {vi : VI} {vl : VL} {x3 : Int32} {INV : Nat → VI → VL → Prop} (B : Base G Γ mL 1300 MC MS) (A : LawAt G Γ b Ls xs) (hin1 : vp_in (x3 + 1) Ls) (hin2 : vp_in (x3 + 2) Ls) (hin3 : vp_in (x3 + 3) Ls) (hin4 : vp_in (x3 + 4) Ls) (hin5 : vp_in (x3 + 5) Ls) (hcs : cs + 25 ≤ MC) (hss : ss + 4060 ≤ MS) (hW : WF sv ns) (hI : INV ns vi vl) (hok : OK5 INV)
    (kk : ∀ (sv1 : SV) (vi1 : VI) (vl1 : VL) (ns1 : Nat), WF sv1 ns1 → INV ns1 vi1 vl1 → ∀ cs1 ss1 : Nat, cs1 ≤ cs + 25 → ss1 ≤ ss + 4060 → J G Γ cs1 ss1 1649 [(0, .ref b), (1, .ref (G.1 + 0)), (2, .ref (G.1 + 63)), (3, .int x3)] [] sv1 vi1 vl1) : J G Γ cs ss 419 [(0, .ref b), (1, .ref (G.1 + 0)), (2, .ref (G.1 + 63)), (3, .int x3)] [] sv vi vl := by
  obtain ⟨r, vi1, hrx, vi2, hry, hI1⟩ := hok ns vi vl (xs (x3 + 1).toNatClampNeg) hI
  refine j_aload_n B dL_law_419 rfl 1 rfl ?_
  refine j_aload_n B dL_law_420 rfl 0 rfl ?_
  refine j_iload_n B dL_law_421 rfl 3 rfl ?_
  refine j_iconst B dL_law_422 (v := 1) (by decide) ?_
  refine j_iadd B dL_law_423 ?_
  refine j_sld B A hin1 dL_law_424 ?_
  refine j_cVI (rest := []) B (tX9_feed hW hrx) cls9 (wf_2 hW) jt_RL_35 wi_X9_feed ws_X9_feed rfl (by omega) (by omega) (by omega) rfl (Nat.le_of_ble_eq_true rfl) dL_law_425 ?_
  refine j_aload_n B dL_law_428 rfl 2 rfl ?_
  refine j_aload_n B dL_law_429 rfl 0 rfl ?_
  refine j_iload_n B dL_law_430 rfl 3 rfl ?_
  refine j_iconst B dL_law_431 (v := 1) (by decide) ?_
  refine j_iadd B dL_law_432 ?_
  refine j_sld B A hin1 dL_law_433 ?_
  refine j_cVI (rest := [.int r]) B (tX10_feed hW hry) cls10 (wf_65 hW) jt_RL_39 wi_X10_feed ws_X10_feed rfl (by omega) (by omega) (by omega) rfl (Nat.le_of_ble_eq_true rfl) dL_law_434 ?_
  refine j_icmp_eq (tgt := 1649) B dL_law_437 (by decide) (fun _ => ?_) (fun c => absurd rfl c)
  exact kk sv vi2 vl ns hW hI1 cs ss (by omega) (by omega)
theorem lwc_6 {G : GT} {Γ : CT} {MC MS cs ss b Ls ns : Nat} {xs : Nat → Int32} {sv : SV} {vi : VI} {vl : VL} {x3 : Int32} {INV : Nat → VI → VL → Prop} (B : Base G Γ mL 1300 MC MS) (A : LawAt G Γ b Ls xs) (hin1 : vp_in (x3 + 1) Ls) (hin2 : vp_in (x3 + 2) Ls) (hin3 : vp_in (x3 + 3) Ls) (hin4 : vp_in (x3 + 4) Ls) (hin5 : vp_in (x3 + 5) Ls) (hcs : cs + 25 ≤ MC) (hss : ss + 4060 ≤ MS) (hW : WF sv ns) (hI : INV ns vi vl) (hok : OK6 INV)
    (kk : ∀ (sv1 : SV) (vi1 : VI) (vl1 : VL) (ns1 : Nat), WF sv1 ns1 → INV ns1 vi1 vl1 → ∀ cs1 ss1 : Nat, cs1 ≤ cs + 25 → ss1 ≤ ss + 4060 → J G Γ cs1 ss1 1649 [(0, .ref b), (1, .ref (G.1 + 0)), (2, .ref (G.1 + 63)), (3, .int x3)] [] sv1 vi1 vl1) : J G Γ cs ss 442 [(0, .ref b), (1, .ref (G.1 + 0)), (2, .ref (G.1 + 63)), (3, .int x3)] [] sv vi vl := by
  obtain ⟨r, vi1, hrx, vi2, hry, hI1⟩ := hok ns vi vl  hI
  refine j_aload_n B dL_law_442 rfl 1 rfl ?_
  refine j_cVI (rest := []) B (tX9_law hW hrx) cls9 (wf_2 hW) jt_RL_40 wi_X9_law ws_X9_law rfl (by omega) (by omega) (by omega) rfl (Nat.le_of_ble_eq_true rfl) dL_law_443 ?_
  replace hW := wf_into (r := 9 + 1) hW
  refine j_aload_n B dL_law_446 rfl 2 rfl ?_
  refine j_cVI (rest := [.int r]) B (tX10_law hW hry) cls10 (wf_65 hW) jt_RL_44 wi_X10_law ws_X10_law rfl (by omega) (by omega) (by omega) rfl (Nat.le_of_ble_eq_true rfl) dL_law_447 ?_
  refine j_icmp_eq (tgt := 1649) B dL_law_450 (by decide) (fun _ => ?_) (fun c => absurd rfl c)
  exact kk (j_svr sv 3 4 (9 + 1)) vi2 vl ns hW hI1 cs ss (by omega) (by omega)
theorem lwc_7 {G : GT} {Γ : CT} {MC MS cs ss b Ls ns : Nat} {xs : Nat → Int32} {sv : SV} {vi : VI} {vl : VL} {x3 : Int32} {INV : Nat → VI → VL → Prop} (B : Base G Γ mL 1300 MC MS) (A : LawAt G Γ b Ls xs) (hin1 : vp_in (x3 + 1) Ls) (hin2 : vp_in (x3 + 2) Ls) (hin3 : vp_in (x3 + 3) Ls) (hin4 : vp_in (x3 + 4) Ls) (hin5 : vp_in (x3 + 5) Ls) (hcs : cs + 25 ≤ MC) (hss : ss + 4060 ≤ MS) (hW : WF sv ns) (hI : INV ns vi vl) (hok : OK7 INV)
    (kk : ∀ (sv1 : SV) (vi1 : VI) (vl1 : VL) (ns1 : Nat), WF sv1 ns1 → INV ns1 vi1 vl1 → ∀ cs1 ss1 : Nat, cs1 ≤ cs + 25 → ss1 ≤ ss + 4060 → J G Γ cs1 ss1 1649 [(0, .ref b), (1, .ref (G.1 + 0)), (2, .ref (G.1 + 63)), (3, .int x3)] [] sv1 vi1 vl1) : J G Γ cs ss 455 [(0, .ref b), (1, .ref (G.1 + 0)), (2, .ref (G.1 + 63)), (3, .int x3)] [] sv vi vl := by
  obtain ⟨r, vi1, hrx, vi2, hry, hI1⟩ := hok ns vi vl (xs (x3 + 1).toNatClampNeg) (xs (x3 + 2).toNatClampNeg) hI
  refine j_aload_n B dL_law_455 rfl 1 rfl ?_
  refine j_aload_n B dL_law_456 rfl 0 rfl ?_
  refine j_iload_n B dL_law_457 rfl 3 rfl ?_
  refine j_iconst B dL_law_458 (v := 1) (by decide) ?_
  refine j_iadd B dL_law_459 ?_
  refine j_sld B A hin1 dL_law_460 ?_
  refine j_aload_n B dL_law_461 rfl 0 rfl ?_
  refine j_iload_n B dL_law_462 rfl 3 rfl ?_
  refine j_iconst B dL_law_463 (v := 2) (by decide) ?_
  refine j_iadd B dL_law_464 ?_
  refine j_sld B A hin2 dL_law_465 ?_
  refine j_cVI (rest := []) B (tX9_lays hW hrx) cls9 (wf_2 hW) jt_RL_45 wi_X9_lays ws_X9_lays rfl (by omega) (by omega) (by omega) rfl (Nat.le_of_ble_eq_true rfl) dL_law_466 ?_
  refine j_aload_n B dL_law_469 rfl 2 rfl ?_
  refine j_aload_n B dL_law_470 rfl 0 rfl ?_
  refine j_iload_n B dL_law_471 rfl 3 rfl ?_
  refine j_iconst B dL_law_472 (v := 1) (by decide) ?_
  refine j_iadd B dL_law_473 ?_
  refine j_sld B A hin1 dL_law_474 ?_
  refine j_aload_n B dL_law_475 rfl 0 rfl ?_
  refine j_iload_n B dL_law_476 rfl 3 rfl ?_
  refine j_iconst B dL_law_477 (v := 2) (by decide) ?_
  refine j_iadd B dL_law_478 ?_
  refine j_sld B A hin2 dL_law_479 ?_
  refine j_cVI (rest := [.int r]) B (tX10_lays hW hry) cls10 (wf_65 hW) jt_RL_48 wi_X10_lays ws_X10_lays rfl (by omega) (by omega) (by omega) rfl (Nat.le_of_ble_eq_true rfl) dL_law_480 ?_
  refine j_icmp_eq (tgt := 1649) B dL_law_483 (by decide) (fun _ => ?_) (fun c => absurd rfl c)
  exact kk sv vi2 vl ns hW hI1 cs ss (by omega) (by omega)
theorem lwc_8 {G : GT} {Γ : CT} {MC MS cs ss b Ls ns : Nat} {xs : Nat → Int32} {sv : SV} {vi : VI} {vl : VL} {x3 : Int32} {INV : Nat → VI → VL → Prop} (B : Base G Γ mL 1300 MC MS) (A : LawAt G Γ b Ls xs) (hin1 : vp_in (x3 + 1) Ls) (hin2 : vp_in (x3 + 2) Ls) (hin3 : vp_in (x3 + 3) Ls) (hin4 : vp_in (x3 + 4) Ls) (hin5 : vp_in (x3 + 5) Ls) (hcs : cs + 25 ≤ MC) (hss : ss + 4060 ≤ MS) (hW : WF sv ns) (hI : INV ns vi vl) (hok : OK8 INV)
    (kk : ∀ (sv1 : SV) (vi1 : VI) (vl1 : VL) (ns1 : Nat), WF sv1 ns1 → INV ns1 vi1 vl1 → ∀ cs1 ss1 : Nat, cs1 ≤ cs + 25 → ss1 ≤ ss + 4060 → J G Γ cs1 ss1 1649 [(0, .ref b), (1, .ref (G.1 + 0)), (2, .ref (G.1 + 63)), (3, .int x3)] [] sv1 vi1 vl1) : J G Γ cs ss 488 [(0, .ref b), (1, .ref (G.1 + 0)), (2, .ref (G.1 + 63)), (3, .int x3)] [] sv vi vl := by
  obtain ⟨r, vi1, hrx, vi2, hry, hI1⟩ := hok ns vi vl (xs (x3 + 1).toNatClampNeg) (xs (x3 + 2).toNatClampNeg) (xs (x3 + 3).toNatClampNeg) (xs (x3 + 4).toNatClampNeg) hI
  refine j_aload_n B dL_law_488 rfl 1 rfl ?_
  refine j_aload_n B dL_law_489 rfl 0 rfl ?_
  refine j_iload_n B dL_law_490 rfl 3 rfl ?_
  refine j_iconst B dL_law_491 (v := 1) (by decide) ?_
  refine j_iadd B dL_law_492 ?_
  refine j_sld B A hin1 dL_law_493 ?_
  refine j_aload_n B dL_law_494 rfl 0 rfl ?_
  refine j_iload_n B dL_law_495 rfl 3 rfl ?_
  refine j_iconst B dL_law_496 (v := 2) (by decide) ?_
  refine j_iadd B dL_law_497 ?_
  refine j_sld B A hin2 dL_law_498 ?_
  refine j_aload_n B dL_law_499 rfl 0 rfl ?_
  refine j_iload_n B dL_law_500 rfl 3 rfl ?_
  refine j_iconst B dL_law_501 (v := 3) (by decide) ?_
  refine j_iadd B dL_law_502 ?_
  refine j_sld B A hin3 dL_law_503 ?_
  refine j_aload_n B dL_law_504 rfl 0 rfl ?_
  refine j_iload_n B dL_law_505 rfl 3 rfl ?_
  refine j_iconst B dL_law_506 (v := 4) (by decide) ?_
  refine j_iadd B dL_law_507 ?_
  refine j_sld B A hin4 dL_law_508 ?_
  refine j_cVI (rest := []) B (tX9_later hW hrx) cls9 (wf_2 hW) jt_RL_49 wi_X9_later ws_X9_later rfl (by omega) (by omega) (by omega) rfl (Nat.le_of_ble_eq_true rfl) dL_law_509 ?_
  refine j_aload_n B dL_law_512 rfl 2 rfl ?_
  refine j_aload_n B dL_law_513 rfl 0 rfl ?_
  refine j_iload_n B dL_law_514 rfl 3 rfl ?_
  refine j_iconst B dL_law_515 (v := 1) (by decide) ?_
  refine j_iadd B dL_law_516 ?_
  refine j_sld B A hin1 dL_law_517 ?_
  refine j_aload_n B dL_law_518 rfl 0 rfl ?_
  refine j_iload_n B dL_law_519 rfl 3 rfl ?_
  refine j_iconst B dL_law_520 (v := 2) (by decide) ?_
  refine j_iadd B dL_law_521 ?_
  refine j_sld B A hin2 dL_law_522 ?_
  refine j_aload_n B dL_law_523 rfl 0 rfl ?_
  refine j_iload_n B dL_law_524 rfl 3 rfl ?_
  refine j_iconst B dL_law_525 (v := 3) (by decide) ?_
  refine j_iadd B dL_law_526 ?_
  refine j_sld B A hin3 dL_law_527 ?_
  refine j_aload_n B dL_law_528 rfl 0 rfl ?_
  refine j_iload_n B dL_law_529 rfl 3 rfl ?_
  refine j_iconst B dL_law_530 (v := 4) (by decide) ?_
  refine j_iadd B dL_law_531 ?_
  refine j_sld B A hin4 dL_law_532 ?_
  refine j_cVI (rest := [.int r]) B (tX10_later hW hry) cls10 (wf_65 hW) jt_RL_53 wi_X10_later ws_X10_later rfl (by omega) (by omega) (by omega) rfl (Nat.le_of_ble_eq_true rfl) dL_law_533 ?_
  refine j_icmp_eq (tgt := 1649) B dL_law_536 (by decide) (fun _ => ?_) (fun c => absurd rfl c)
  exact kk sv vi2 vl ns hW hI1 cs ss (by omega) (by omega)
theorem lwc_9 {G : GT} {Γ : CT} {MC MS cs ss b Ls ns : Nat} {xs : Nat → Int32} {sv : SV} {vi : VI} {vl : VL} {x3 : Int32} {INV : Nat → VI → VL → Prop} (B : Base G Γ mL 1300 MC MS) (A : LawAt G Γ b Ls xs) (hin1 : vp_in (x3 + 1) Ls) (hin2 : vp_in (x3 + 2) Ls) (hin3 : vp_in (x3 + 3) Ls) (hin4 : vp_in (x3 + 4) Ls) (hin5 : vp_in (x3 + 5) Ls) (hcs : cs + 25 ≤ MC) (hss : ss + 4060 ≤ MS) (hW : WF sv ns) (hI : INV ns vi vl) (hok : OK9 INV)
    (kk : ∀ (sv1 : SV) (vi1 : VI) (vl1 : VL) (ns1 : Nat), WF sv1 ns1 → INV ns1 vi1 vl1 → ∀ cs1 ss1 : Nat, cs1 ≤ cs + 25 → ss1 ≤ ss + 4060 → J G Γ cs1 ss1 1649 [(0, .ref b), (1, .ref (G.1 + 0)), (2, .ref (G.1 + 63)), (3, .int x3)] [] sv1 vi1 vl1) : J G Γ cs ss 541 [(0, .ref b), (1, .ref (G.1 + 0)), (2, .ref (G.1 + 63)), (3, .int x3)] [] sv vi vl := by
  obtain ⟨r, vi1, hrx, vi2, hry, hI1⟩ := hok ns vi vl (xs (x3 + 1).toNatClampNeg) (xs (x3 + 2).toNatClampNeg) (xs (x3 + 3).toNatClampNeg) (xs (x3 + 4).toNatClampNeg) hI
  refine j_aload_n B dL_law_541 rfl 1 rfl ?_
  refine j_aload_n B dL_law_542 rfl 0 rfl ?_
  refine j_iload_n B dL_law_543 rfl 3 rfl ?_
  refine j_iconst B dL_law_544 (v := 1) (by decide) ?_
  refine j_iadd B dL_law_545 ?_
  refine j_sld B A hin1 dL_law_546 ?_
  refine j_aload_n B dL_law_547 rfl 0 rfl ?_
  refine j_iload_n B dL_law_548 rfl 3 rfl ?_
  refine j_iconst B dL_law_549 (v := 2) (by decide) ?_
  refine j_iadd B dL_law_550 ?_
  refine j_sld B A hin2 dL_law_551 ?_
  refine j_aload_n B dL_law_552 rfl 0 rfl ?_
  refine j_iload_n B dL_law_553 rfl 3 rfl ?_
  refine j_iconst B dL_law_554 (v := 3) (by decide) ?_
  refine j_iadd B dL_law_555 ?_
  refine j_sld B A hin3 dL_law_556 ?_
  refine j_aload_n B dL_law_557 rfl 0 rfl ?_
  refine j_iload_n B dL_law_558 rfl 3 rfl ?_
  refine j_iconst B dL_law_559 (v := 4) (by decide) ?_
  refine j_iadd B dL_law_560 ?_
  refine j_sld B A hin4 dL_law_561 ?_
  refine j_cVI (rest := []) B (tX9_laid hW hrx) cls9 (wf_2 hW) jt_RL_54 wi_X9_laid ws_X9_laid rfl (by omega) (by omega) (by omega) rfl (Nat.le_of_ble_eq_true rfl) dL_law_562 ?_
  refine j_aload_n B dL_law_565 rfl 2 rfl ?_
  refine j_aload_n B dL_law_566 rfl 0 rfl ?_
  refine j_iload_n B dL_law_567 rfl 3 rfl ?_
  refine j_iconst B dL_law_568 (v := 1) (by decide) ?_
  refine j_iadd B dL_law_569 ?_
  refine j_sld B A hin1 dL_law_570 ?_
  refine j_aload_n B dL_law_571 rfl 0 rfl ?_
  refine j_iload_n B dL_law_572 rfl 3 rfl ?_
  refine j_iconst B dL_law_573 (v := 2) (by decide) ?_
  refine j_iadd B dL_law_574 ?_
  refine j_sld B A hin2 dL_law_575 ?_
  refine j_aload_n B dL_law_576 rfl 0 rfl ?_
  refine j_iload_n B dL_law_577 rfl 3 rfl ?_
  refine j_iconst B dL_law_578 (v := 3) (by decide) ?_
  refine j_iadd B dL_law_579 ?_
  refine j_sld B A hin3 dL_law_580 ?_
  refine j_aload_n B dL_law_581 rfl 0 rfl ?_
  refine j_iload_n B dL_law_582 rfl 3 rfl ?_
  refine j_iconst B dL_law_583 (v := 4) (by decide) ?_
  refine j_iadd B dL_law_584 ?_
  refine j_sld B A hin4 dL_law_585 ?_
  refine j_cVI (rest := [.int r]) B (tX10_laid hW hry) cls10 (wf_65 hW) jt_RL_57 wi_X10_laid ws_X10_laid rfl (by omega) (by omega) (by omega) rfl (Nat.le_of_ble_eq_true rfl) dL_law_586 ?_
  refine j_icmp_eq (tgt := 1649) B dL_law_589 (by decide) (fun _ => ?_) (fun c => absurd rfl c)
  exact kk sv vi2 vl ns hW hI1 cs ss (by omega) (by omega)
theorem lwc_10 {G : GT} {Γ : CT} {MC MS cs ss b Ls ns : Nat} {xs : Nat → Int32} {sv : SV} {vi : VI} {vl : VL} {x3 : Int32} {INV : Nat → VI → VL → Prop} (B : Base G Γ mL 1300 MC MS) (A : LawAt G Γ b Ls xs) (hin1 : vp_in (x3 + 1) Ls) (hin2 : vp_in (x3 + 2) Ls) (hin3 : vp_in (x3 + 3) Ls) (hin4 : vp_in (x3 + 4) Ls) (hin5 : vp_in (x3 + 5) Ls) (hcs : cs + 25 ≤ MC) (hss : ss + 4060 ≤ MS) (hW : WF sv ns) (hI : INV ns vi vl) (hok : OK10 INV)
    (kk : ∀ (sv1 : SV) (vi1 : VI) (vl1 : VL) (ns1 : Nat), WF sv1 ns1 → INV ns1 vi1 vl1 → ∀ cs1 ss1 : Nat, cs1 ≤ cs + 25 → ss1 ≤ ss + 4060 → J G Γ cs1 ss1 1649 [(0, .ref b), (1, .ref (G.1 + 0)), (2, .ref (G.1 + 63)), (3, .int x3)] [] sv1 vi1 vl1) : J G Γ cs ss 594 [(0, .ref b), (1, .ref (G.1 + 0)), (2, .ref (G.1 + 63)), (3, .int x3)] [] sv vi vl := by
  obtain ⟨r, vi1, hrx, vi2, hry, hI1⟩ := hok ns vi vl (xs (x3 + 1).toNatClampNeg) (xs (x3 + 2).toNatClampNeg) (xs (x3 + 3).toNatClampNeg) hI
  refine j_aload_n B dL_law_594 rfl 1 rfl ?_
  refine j_aload_n B dL_law_595 rfl 0 rfl ?_
  refine j_iload_n B dL_law_596 rfl 3 rfl ?_
  refine j_iconst B dL_law_597 (v := 1) (by decide) ?_
  refine j_iadd B dL_law_598 ?_
  refine j_sld B A hin1 dL_law_599 ?_
  refine j_aload_n B dL_law_600 rfl 0 rfl ?_
  refine j_iload_n B dL_law_601 rfl 3 rfl ?_
  refine j_iconst B dL_law_602 (v := 2) (by decide) ?_
  refine j_iadd B dL_law_603 ?_
  refine j_sld B A hin2 dL_law_604 ?_
  refine j_aload_n B dL_law_605 rfl 0 rfl ?_
  refine j_iload_n B dL_law_606 rfl 3 rfl ?_
  refine j_iconst B dL_law_607 (v := 3) (by decide) ?_
  refine j_iadd B dL_law_608 ?_
  refine j_sld B A hin3 dL_law_609 ?_
  refine j_cVI (rest := []) B (tX9_breath hW hrx) cls9 (wf_2 hW) jt_RL_58 wi_X9_breath ws_X9_breath rfl (by omega) (by omega) (by omega) rfl (Nat.le_of_ble_eq_true rfl) dL_law_610 ?_
  refine j_aload_n B dL_law_613 rfl 2 rfl ?_
  refine j_aload_n B dL_law_614 rfl 0 rfl ?_
  refine j_iload_n B dL_law_615 rfl 3 rfl ?_
  refine j_iconst B dL_law_616 (v := 1) (by decide) ?_
  refine j_iadd B dL_law_617 ?_
  refine j_sld B A hin1 dL_law_618 ?_
  refine j_aload_n B dL_law_619 rfl 0 rfl ?_
  refine j_iload_n B dL_law_620 rfl 3 rfl ?_
  refine j_iconst B dL_law_621 (v := 2) (by decide) ?_
  refine j_iadd B dL_law_622 ?_
  refine j_sld B A hin2 dL_law_623 ?_
  refine j_aload_n B dL_law_624 rfl 0 rfl ?_
  refine j_iload_n B dL_law_625 rfl 3 rfl ?_
  refine j_iconst B dL_law_626 (v := 3) (by decide) ?_
  refine j_iadd B dL_law_627 ?_
  refine j_sld B A hin3 dL_law_628 ?_
  refine j_cVI (rest := [.int r]) B (tX10_breath hW hry) cls10 (wf_65 hW) jt_RL_61 wi_X10_breath ws_X10_breath rfl (by omega) (by omega) (by omega) rfl (Nat.le_of_ble_eq_true rfl) dL_law_629 ?_
  refine j_icmp_eq (tgt := 1649) B dL_law_632 (by decide) (fun _ => ?_) (fun c => absurd rfl c)
  exact kk sv vi2 vl ns hW hI1 cs ss (by omega) (by omega)
theorem lwc_11 {G : GT} {Γ : CT} {MC MS cs ss b Ls ns : Nat} {xs : Nat → Int32} {sv : SV} {vi : VI} {vl : VL} {x3 : Int32} {INV : Nat → VI → VL → Prop} (B : Base G Γ mL 1300 MC MS) (A : LawAt G Γ b Ls xs) (hin1 : vp_in (x3 + 1) Ls) (hin2 : vp_in (x3 + 2) Ls) (hin3 : vp_in (x3 + 3) Ls) (hin4 : vp_in (x3 + 4) Ls) (hin5 : vp_in (x3 + 5) Ls) (hcs : cs + 25 ≤ MC) (hss : ss + 4060 ≤ MS) (hW : WF sv ns) (hI : INV ns vi vl) (hok : OK11 INV)
    (kk : ∀ (sv1 : SV) (vi1 : VI) (vl1 : VL) (ns1 : Nat), WF sv1 ns1 → INV ns1 vi1 vl1 → ∀ cs1 ss1 : Nat, cs1 ≤ cs + 25 → ss1 ≤ ss + 4060 → J G Γ cs1 ss1 1649 [(0, .ref b), (1, .ref (G.1 + 0)), (2, .ref (G.1 + 63)), (3, .int x3)] [] sv1 vi1 vl1) : J G Γ cs ss 637 [(0, .ref b), (1, .ref (G.1 + 0)), (2, .ref (G.1 + 63)), (3, .int x3)] [] sv vi vl := by
  obtain ⟨r, hrx, vi2, hry, hI1⟩ := hok ns vi vl (xs (x3 + 1).toNatClampNeg) (xs (x3 + 2).toNatClampNeg) hI
  refine j_aload_n B dL_law_637 rfl 1 rfl ?_
  refine j_aload_n B dL_law_638 rfl 0 rfl ?_
  refine j_iload_n B dL_law_639 rfl 3 rfl ?_
  refine j_iconst B dL_law_640 (v := 1) (by decide) ?_
  refine j_iadd B dL_law_641 ?_
  refine j_sld B A hin1 dL_law_642 ?_
  refine j_aload_n B dL_law_643 rfl 0 rfl ?_
  refine j_iload_n B dL_law_644 rfl 3 rfl ?_
  refine j_iconst B dL_law_645 (v := 2) (by decide) ?_
  refine j_iadd B dL_law_646 ?_
  refine j_sld B A hin2 dL_law_647 ?_
  refine j_cVI (rest := []) B (tX9_clear hW hrx) cls9 (wf_2 hW) jt_RL_62 wi_X9_clear ws_X9_clear rfl (by omega) (by omega) (by omega) rfl (Nat.le_of_ble_eq_true rfl) dL_law_648 ?_
  refine j_aload_n B dL_law_651 rfl 2 rfl ?_
  refine j_aload_n B dL_law_652 rfl 0 rfl ?_
  refine j_iload_n B dL_law_653 rfl 3 rfl ?_
  refine j_iconst B dL_law_654 (v := 1) (by decide) ?_
  refine j_iadd B dL_law_655 ?_
  refine j_sld B A hin1 dL_law_656 ?_
  refine j_aload_n B dL_law_657 rfl 0 rfl ?_
  refine j_iload_n B dL_law_658 rfl 3 rfl ?_
  refine j_iconst B dL_law_659 (v := 2) (by decide) ?_
  refine j_iadd B dL_law_660 ?_
  refine j_sld B A hin2 dL_law_661 ?_
  refine j_cVI (rest := [.int r]) B (tX10_clear hW hry) cls10 (wf_65 hW) jt_RL_65 wi_X10_clear ws_X10_clear rfl (by omega) (by omega) (by omega) rfl (Nat.le_of_ble_eq_true rfl) dL_law_662 ?_
  refine j_icmp_eq (tgt := 1649) B dL_law_665 (by decide) (fun _ => ?_) (fun c => absurd rfl c)
  exact kk sv vi2 vl ns hW hI1 cs ss (by omega) (by omega)
theorem lwc_12 {G : GT} {Γ : CT} {MC MS cs ss b Ls ns : Nat} {xs : Nat → Int32} {sv : SV} {vi : VI} {vl : VL} {x3 : Int32} {INV : Nat → VI → VL → Prop} (B : Base G Γ mL 1300 MC MS) (A : LawAt G Γ b Ls xs) (hin1 : vp_in (x3 + 1) Ls) (hin2 : vp_in (x3 + 2) Ls) (hin3 : vp_in (x3 + 3) Ls) (hin4 : vp_in (x3 + 4) Ls) (hin5 : vp_in (x3 + 5) Ls) (hcs : cs + 25 ≤ MC) (hss : ss + 4060 ≤ MS) (hW : WF sv ns) (hI : INV ns vi vl) (hok : OK12 INV)
    (kk : ∀ (sv1 : SV) (vi1 : VI) (vl1 : VL) (ns1 : Nat), WF sv1 ns1 → INV ns1 vi1 vl1 → ∀ cs1 ss1 : Nat, cs1 ≤ cs + 25 → ss1 ≤ ss + 4060 → J G Γ cs1 ss1 1649 [(0, .ref b), (1, .ref (G.1 + 0)), (2, .ref (G.1 + 63)), (3, .int x3)] [] sv1 vi1 vl1) : J G Γ cs ss 670 [(0, .ref b), (1, .ref (G.1 + 0)), (2, .ref (G.1 + 63)), (3, .int x3)] [] sv vi vl := by
  obtain ⟨r, vi1, hrx, vi2, hry, hI1⟩ := hok ns vi vl (xs (x3 + 1).toNatClampNeg) (xs (x3 + 2).toNatClampNeg) (xs (x3 + 3).toNatClampNeg) hI
  refine j_aload_n B dL_law_670 rfl 1 rfl ?_
  refine j_aload_n B dL_law_671 rfl 0 rfl ?_
  refine j_iload_n B dL_law_672 rfl 3 rfl ?_
  refine j_iconst B dL_law_673 (v := 1) (by decide) ?_
  refine j_iadd B dL_law_674 ?_
  refine j_sld B A hin1 dL_law_675 ?_
  refine j_aload_n B dL_law_676 rfl 0 rfl ?_
  refine j_iload_n B dL_law_677 rfl 3 rfl ?_
  refine j_iconst B dL_law_678 (v := 2) (by decide) ?_
  refine j_iadd B dL_law_679 ?_
  refine j_sld B A hin2 dL_law_680 ?_
  refine j_aload_n B dL_law_681 rfl 0 rfl ?_
  refine j_iload_n B dL_law_682 rfl 3 rfl ?_
  refine j_iconst B dL_law_683 (v := 3) (by decide) ?_
  refine j_iadd B dL_law_684 ?_
  refine j_sld B A hin3 dL_law_685 ?_
  refine j_cVI (rest := []) B (tX9_touch hW hrx) cls9 (wf_2 hW) jt_RL_66 wi_X9_touch ws_X9_touch rfl (by omega) (by omega) (by omega) rfl (Nat.le_of_ble_eq_true rfl) dL_law_686 ?_
  refine j_aload_n B dL_law_689 rfl 2 rfl ?_
  refine j_aload_n B dL_law_690 rfl 0 rfl ?_
  refine j_iload_n B dL_law_691 rfl 3 rfl ?_
  refine j_iconst B dL_law_692 (v := 1) (by decide) ?_
  refine j_iadd B dL_law_693 ?_
  refine j_sld B A hin1 dL_law_694 ?_
  refine j_aload_n B dL_law_695 rfl 0 rfl ?_
  refine j_iload_n B dL_law_696 rfl 3 rfl ?_
  refine j_iconst B dL_law_697 (v := 2) (by decide) ?_
  refine j_iadd B dL_law_698 ?_
  refine j_sld B A hin2 dL_law_699 ?_
  refine j_aload_n B dL_law_700 rfl 0 rfl ?_
  refine j_iload_n B dL_law_701 rfl 3 rfl ?_
  refine j_iconst B dL_law_702 (v := 3) (by decide) ?_
  refine j_iadd B dL_law_703 ?_
  refine j_sld B A hin3 dL_law_704 ?_
  refine j_cVI (rest := [.int r]) B (tX10_touch hW hry) cls10 (wf_65 hW) jt_RL_69 wi_X10_touch ws_X10_touch rfl (by omega) (by omega) (by omega) rfl (Nat.le_of_ble_eq_true rfl) dL_law_705 ?_
  refine j_icmp_eq (tgt := 1649) B dL_law_708 (by decide) (fun _ => ?_) (fun c => absurd rfl c)
  exact kk sv vi2 vl ns hW hI1 cs ss (by omega) (by omega)
theorem lwc_13 {G : GT} {Γ : CT} {MC MS cs ss b Ls ns : Nat} {xs : Nat → Int32} {sv : SV} {vi : VI} {vl : VL} {x3 : Int32} {INV : Nat → VI → VL → Prop} (B : Base G Γ mL 1300 MC MS) (A : LawAt G Γ b Ls xs) (hin1 : vp_in (x3 + 1) Ls) (hin2 : vp_in (x3 + 2) Ls) (hin3 : vp_in (x3 + 3) Ls) (hin4 : vp_in (x3 + 4) Ls) (hin5 : vp_in (x3 + 5) Ls) (hcs : cs + 25 ≤ MC) (hss : ss + 4060 ≤ MS) (hW : WF sv ns) (hI : INV ns vi vl) (hok : OK13 INV)
    (kk : ∀ (sv1 : SV) (vi1 : VI) (vl1 : VL) (ns1 : Nat), WF sv1 ns1 → INV ns1 vi1 vl1 → ∀ cs1 ss1 : Nat, cs1 ≤ cs + 25 → ss1 ≤ ss + 4060 → J G Γ cs1 ss1 1649 [(0, .ref b), (1, .ref (G.1 + 0)), (2, .ref (G.1 + 63)), (3, .int x3)] [] sv1 vi1 vl1) : J G Γ cs ss 713 [(0, .ref b), (1, .ref (G.1 + 0)), (2, .ref (G.1 + 63)), (3, .int x3)] [] sv vi vl := by
  obtain ⟨r, hrx, vi2, hry, hI1⟩ := hok ns vi vl (xs (x3 + 1).toNatClampNeg) hI
  refine j_aload_n B dL_law_713 rfl 1 rfl ?_
  refine j_aload_n B dL_law_714 rfl 0 rfl ?_
  refine j_iload_n B dL_law_715 rfl 3 rfl ?_
  refine j_iconst B dL_law_716 (v := 1) (by decide) ?_
  refine j_iadd B dL_law_717 ?_
  refine j_sld B A hin1 dL_law_718 ?_
  refine j_cVI (rest := []) B (tX9_tellsOf hW hrx) cls9 (wf_2 hW) jt_RL_70 wi_X9_tellsOf ws_X9_tellsOf rfl (by omega) (by omega) (by omega) rfl (Nat.le_of_ble_eq_true rfl) dL_law_719 ?_
  refine j_aload_n B dL_law_722 rfl 2 rfl ?_
  refine j_aload_n B dL_law_723 rfl 0 rfl ?_
  refine j_iload_n B dL_law_724 rfl 3 rfl ?_
  refine j_iconst B dL_law_725 (v := 1) (by decide) ?_
  refine j_iadd B dL_law_726 ?_
  refine j_sld B A hin1 dL_law_727 ?_
  refine j_cVI (rest := [.int r]) B (tX10_tellsOf hW hry) cls10 (wf_65 hW) jt_RL_73 wi_X10_tellsOf ws_X10_tellsOf rfl (by omega) (by omega) (by omega) rfl (Nat.le_of_ble_eq_true rfl) dL_law_728 ?_
  refine j_icmp_eq (tgt := 1649) B dL_law_731 (by decide) (fun _ => ?_) (fun c => absurd rfl c)
  exact kk sv vi2 vl ns hW hI1 cs ss (by omega) (by omega)
theorem lwc_14 {G : GT} {Γ : CT} {MC MS cs ss b Ls ns : Nat} {xs : Nat → Int32} {sv : SV} {vi : VI} {vl : VL} {x3 : Int32} {INV : Nat → VI → VL → Prop} (B : Base G Γ mL 1300 MC MS) (A : LawAt G Γ b Ls xs) (hin1 : vp_in (x3 + 1) Ls) (hin2 : vp_in (x3 + 2) Ls) (hin3 : vp_in (x3 + 3) Ls) (hin4 : vp_in (x3 + 4) Ls) (hin5 : vp_in (x3 + 5) Ls) (hcs : cs + 25 ≤ MC) (hss : ss + 4060 ≤ MS) (hW : WF sv ns) (hI : INV ns vi vl) (hok : OK14 INV)
    (kk : ∀ (sv1 : SV) (vi1 : VI) (vl1 : VL) (ns1 : Nat), WF sv1 ns1 → INV ns1 vi1 vl1 → ∀ cs1 ss1 : Nat, cs1 ≤ cs + 25 → ss1 ≤ ss + 4060 → J G Γ cs1 ss1 1649 [(0, .ref b), (1, .ref (G.1 + 0)), (2, .ref (G.1 + 63)), (3, .int x3)] [] sv1 vi1 vl1) : J G Γ cs ss 736 [(0, .ref b), (1, .ref (G.1 + 0)), (2, .ref (G.1 + 63)), (3, .int x3)] [] sv vi vl := by
  obtain ⟨r, hrx, vi2, hry, hI1⟩ := hok ns vi vl (xs (x3 + 1).toNatClampNeg) (xs (x3 + 2).toNatClampNeg) hI
  refine j_aload_n B dL_law_736 rfl 1 rfl ?_
  refine j_aload_n B dL_law_737 rfl 0 rfl ?_
  refine j_iload_n B dL_law_738 rfl 3 rfl ?_
  refine j_iconst B dL_law_739 (v := 1) (by decide) ?_
  refine j_iadd B dL_law_740 ?_
  refine j_sld B A hin1 dL_law_741 ?_
  refine j_aload_n B dL_law_742 rfl 0 rfl ?_
  refine j_iload_n B dL_law_743 rfl 3 rfl ?_
  refine j_iconst B dL_law_744 (v := 2) (by decide) ?_
  refine j_iadd B dL_law_745 ?_
  refine j_sld B A hin2 dL_law_746 ?_
  refine j_cVI (rest := []) B (tX9_fewest hW hrx) cls9 (wf_2 hW) jt_RL_74 wi_X9_fewest ws_X9_fewest rfl (by omega) (by omega) (by omega) rfl (Nat.le_of_ble_eq_true rfl) dL_law_747 ?_
  refine j_aload_n B dL_law_750 rfl 2 rfl ?_
  refine j_aload_n B dL_law_751 rfl 0 rfl ?_
  refine j_iload_n B dL_law_752 rfl 3 rfl ?_
  refine j_iconst B dL_law_753 (v := 1) (by decide) ?_
  refine j_iadd B dL_law_754 ?_
  refine j_sld B A hin1 dL_law_755 ?_
  refine j_aload_n B dL_law_756 rfl 0 rfl ?_
  refine j_iload_n B dL_law_757 rfl 3 rfl ?_
  refine j_iconst B dL_law_758 (v := 2) (by decide) ?_
  refine j_iadd B dL_law_759 ?_
  refine j_sld B A hin2 dL_law_760 ?_
  refine j_cVI (rest := [.int r]) B (tX10_fewest hW hry) cls10 (wf_65 hW) jt_RL_77 wi_X10_fewest ws_X10_fewest rfl (by omega) (by omega) (by omega) rfl (Nat.le_of_ble_eq_true rfl) dL_law_761 ?_
  refine j_icmp_eq (tgt := 1649) B dL_law_764 (by decide) (fun _ => ?_) (fun c => absurd rfl c)
  exact kk sv vi2 vl ns hW hI1 cs ss (by omega) (by omega)
theorem lwc_15 {G : GT} {Γ : CT} {MC MS cs ss b Ls ns : Nat} {xs : Nat → Int32} {sv : SV} {vi : VI} {vl : VL} {x3 : Int32} {INV : Nat → VI → VL → Prop} (B : Base G Γ mL 1300 MC MS) (A : LawAt G Γ b Ls xs) (hin1 : vp_in (x3 + 1) Ls) (hin2 : vp_in (x3 + 2) Ls) (hin3 : vp_in (x3 + 3) Ls) (hin4 : vp_in (x3 + 4) Ls) (hin5 : vp_in (x3 + 5) Ls) (hcs : cs + 25 ≤ MC) (hss : ss + 4060 ≤ MS) (hW : WF sv ns) (hI : INV ns vi vl) (hok : OK15 INV)
    (kk : ∀ (sv1 : SV) (vi1 : VI) (vl1 : VL) (ns1 : Nat), WF sv1 ns1 → INV ns1 vi1 vl1 → ∀ cs1 ss1 : Nat, cs1 ≤ cs + 25 → ss1 ≤ ss + 4060 → J G Γ cs1 ss1 1649 [(0, .ref b), (1, .ref (G.1 + 0)), (2, .ref (G.1 + 63)), (3, .int x3)] [] sv1 vi1 vl1) : J G Γ cs ss 769 [(0, .ref b), (1, .ref (G.1 + 0)), (2, .ref (G.1 + 63)), (3, .int x3)] [] sv vi vl := by
  obtain ⟨r, hrx, vi2, hry, hI1⟩ := hok ns vi vl  hI
  refine j_aload_n B dL_law_769 rfl 1 rfl ?_
  refine j_cVI (rest := []) B (tX9_corner hW hrx) cls9 (wf_2 hW) jt_RL_78 wi_X9_corner ws_X9_corner rfl (by omega) (by omega) (by omega) rfl (Nat.le_of_ble_eq_true rfl) dL_law_770 ?_
  refine j_aload_n B dL_law_773 rfl 2 rfl ?_
  refine j_cVI (rest := [.int r]) B (tX10_corner hW hry) cls10 (wf_65 hW) jt_RL_81 wi_X10_corner ws_X10_corner rfl (by omega) (by omega) (by omega) rfl (Nat.le_of_ble_eq_true rfl) dL_law_774 ?_
  refine j_icmp_eq (tgt := 1649) B dL_law_777 (by decide) (fun _ => ?_) (fun c => absurd rfl c)
  exact kk sv vi2 vl ns hW hI1 cs ss (by omega) (by omega)
theorem lwc_16 {G : GT} {Γ : CT} {MC MS cs ss b Ls ns : Nat} {xs : Nat → Int32} {sv : SV} {vi : VI} {vl : VL} {x3 : Int32} {INV : Nat → VI → VL → Prop} (B : Base G Γ mL 1300 MC MS) (A : LawAt G Γ b Ls xs) (hin1 : vp_in (x3 + 1) Ls) (hin2 : vp_in (x3 + 2) Ls) (hin3 : vp_in (x3 + 3) Ls) (hin4 : vp_in (x3 + 4) Ls) (hin5 : vp_in (x3 + 5) Ls) (hcs : cs + 25 ≤ MC) (hss : ss + 4060 ≤ MS) (hW : WF sv ns) (hI : INV ns vi vl) (hok : OK16 INV)
    (kk : ∀ (sv1 : SV) (vi1 : VI) (vl1 : VL) (ns1 : Nat), WF sv1 ns1 → INV ns1 vi1 vl1 → ∀ cs1 ss1 : Nat, cs1 ≤ cs + 25 → ss1 ≤ ss + 4060 → J G Γ cs1 ss1 1649 [(0, .ref b), (1, .ref (G.1 + 0)), (2, .ref (G.1 + 63)), (3, .int x3)] [] sv1 vi1 vl1) : J G Γ cs ss 782 [(0, .ref b), (1, .ref (G.1 + 0)), (2, .ref (G.1 + 63)), (3, .int x3)] [] sv vi vl := by
  obtain ⟨r, vi1, vl1, hrx, vi2, vl2, hry, hI1⟩ := hok ns vi vl (xs (x3 + 1).toNatClampNeg) (xs (x3 + 2).toNatClampNeg) hI
  refine j_aload_n B dL_law_782 rfl 1 rfl ?_
  refine j_aload_n B dL_law_783 rfl 0 rfl ?_
  refine j_iload_n B dL_law_784 rfl 3 rfl ?_
  refine j_iconst B dL_law_785 (v := 1) (by decide) ?_
  refine j_iadd B dL_law_786 ?_
  refine j_sld B A hin1 dL_law_787 ?_
  refine j_aload_n B dL_law_788 rfl 0 rfl ?_
  refine j_iload_n B dL_law_789 rfl 3 rfl ?_
  refine j_iconst B dL_law_790 (v := 2) (by decide) ?_
  refine j_iadd B dL_law_791 ?_
  refine j_sld B A hin2 dL_law_792 ?_
  refine j_cVJ (rest := []) B (tX9_ways hW hrx) cls9 (wf_2 hW) jt_RL_82 wi_X9_ways ws_X9_ways rfl (by omega) (by omega) (by omega) rfl (Nat.le_of_ble_eq_true rfl) dL_law_793 ?_
  refine j_aload_n B dL_law_796 rfl 2 rfl ?_
  refine j_aload_n B dL_law_797 rfl 0 rfl ?_
  refine j_iload_n B dL_law_798 rfl 3 rfl ?_
  refine j_iconst B dL_law_799 (v := 1) (by decide) ?_
  refine j_iadd B dL_law_800 ?_
  refine j_sld B A hin1 dL_law_801 ?_
  refine j_aload_n B dL_law_802 rfl 0 rfl ?_
  refine j_iload_n B dL_law_803 rfl 3 rfl ?_
  refine j_iconst B dL_law_804 (v := 2) (by decide) ?_
  refine j_iadd B dL_law_805 ?_
  refine j_sld B A hin2 dL_law_806 ?_
  refine j_cVJ (rest := [.long r]) B (tX10_ways hW hry) cls10 (wf_65 hW) jt_RL_86 wi_X10_ways ws_X10_ways rfl (by omega) (by omega) (by omega) rfl (Nat.le_of_ble_eq_true rfl) dL_law_807 ?_
  refine j_lcmp B dL_law_810 ?_
  refine j_if_eq (tgt := 1649) B dL_law_811 (by decide) (fun _ => ?_) (fun c => absurd (lg_self r) c)
  exact kk sv vi2 vl2 ns hW hI1 cs ss (by omega) (by omega)
theorem lwc_17 {G : GT} {Γ : CT} {MC MS cs ss b Ls ns : Nat} {xs : Nat → Int32} {sv : SV} {vi : VI} {vl : VL} {x3 : Int32} {INV : Nat → VI → VL → Prop} (B : Base G Γ mL 1300 MC MS) (A : LawAt G Γ b Ls xs) (hin1 : vp_in (x3 + 1) Ls) (hin2 : vp_in (x3 + 2) Ls) (hin3 : vp_in (x3 + 3) Ls) (hin4 : vp_in (x3 + 4) Ls) (hin5 : vp_in (x3 + 5) Ls) (hcs : cs + 25 ≤ MC) (hss : ss + 4060 ≤ MS) (hW : WF sv ns) (hI : INV ns vi vl) (hok : OK17 INV)
    (kk : ∀ (sv1 : SV) (vi1 : VI) (vl1 : VL) (ns1 : Nat), WF sv1 ns1 → INV ns1 vi1 vl1 → ∀ cs1 ss1 : Nat, cs1 ≤ cs + 25 → ss1 ≤ ss + 4060 → J G Γ cs1 ss1 1649 [(0, .ref b), (1, .ref (G.1 + 0)), (2, .ref (G.1 + 63)), (3, .int x3)] [] sv1 vi1 vl1) : J G Γ cs ss 816 [(0, .ref b), (1, .ref (G.1 + 0)), (2, .ref (G.1 + 63)), (3, .int x3)] [] sv vi vl := by
  obtain ⟨r, vi1, vl1, hrx, vi2, vl2, hry, hI1⟩ := hok ns vi vl (xs (x3 + 1).toNatClampNeg) (xs (x3 + 2).toNatClampNeg) (xs (x3 + 3).toNatClampNeg) hI
  refine j_aload_n B dL_law_816 rfl 1 rfl ?_
  refine j_aload_n B dL_law_817 rfl 0 rfl ?_
  refine j_iload_n B dL_law_818 rfl 3 rfl ?_
  refine j_iconst B dL_law_819 (v := 1) (by decide) ?_
  refine j_iadd B dL_law_820 ?_
  refine j_sld B A hin1 dL_law_821 ?_
  refine j_aload_n B dL_law_822 rfl 0 rfl ?_
  refine j_iload_n B dL_law_823 rfl 3 rfl ?_
  refine j_iconst B dL_law_824 (v := 2) (by decide) ?_
  refine j_iadd B dL_law_825 ?_
  refine j_sld B A hin2 dL_law_826 ?_
  refine j_aload_n B dL_law_827 rfl 0 rfl ?_
  refine j_iload_n B dL_law_828 rfl 3 rfl ?_
  refine j_iconst B dL_law_829 (v := 3) (by decide) ?_
  refine j_iadd B dL_law_830 ?_
  refine j_sld B A hin3 dL_law_831 ?_
  refine j_cVI (rest := []) B (tX9_first hW hrx) cls9 (wf_2 hW) jt_RL_87 wi_X9_first ws_X9_first rfl (by omega) (by omega) (by omega) rfl (Nat.le_of_ble_eq_true rfl) dL_law_832 ?_
  refine j_aload_n B dL_law_835 rfl 2 rfl ?_
  refine j_aload_n B dL_law_836 rfl 0 rfl ?_
  refine j_iload_n B dL_law_837 rfl 3 rfl ?_
  refine j_iconst B dL_law_838 (v := 1) (by decide) ?_
  refine j_iadd B dL_law_839 ?_
  refine j_sld B A hin1 dL_law_840 ?_
  refine j_aload_n B dL_law_841 rfl 0 rfl ?_
  refine j_iload_n B dL_law_842 rfl 3 rfl ?_
  refine j_iconst B dL_law_843 (v := 2) (by decide) ?_
  refine j_iadd B dL_law_844 ?_
  refine j_sld B A hin2 dL_law_845 ?_
  refine j_aload_n B dL_law_846 rfl 0 rfl ?_
  refine j_iload_n B dL_law_847 rfl 3 rfl ?_
  refine j_iconst B dL_law_848 (v := 3) (by decide) ?_
  refine j_iadd B dL_law_849 ?_
  refine j_sld B A hin3 dL_law_850 ?_
  refine j_cVI (rest := [.int r]) B (tX10_first hW hry) cls10 (wf_65 hW) jt_RL_90 wi_X10_first ws_X10_first rfl (by omega) (by omega) (by omega) rfl (Nat.le_of_ble_eq_true rfl) dL_law_851 ?_
  refine j_icmp_eq (tgt := 1649) B dL_law_854 (by decide) (fun _ => ?_) (fun c => absurd rfl c)
  exact kk sv vi2 vl2 ns hW hI1 cs ss (by omega) (by omega)
theorem lwc_18 {G : GT} {Γ : CT} {MC MS cs ss b Ls ns : Nat} {xs : Nat → Int32} {sv : SV} {vi : VI} {vl : VL} {x3 : Int32} {INV : Nat → VI → VL → Prop} (B : Base G Γ mL 1300 MC MS) (A : LawAt G Γ b Ls xs) (hin1 : vp_in (x3 + 1) Ls) (hin2 : vp_in (x3 + 2) Ls) (hin3 : vp_in (x3 + 3) Ls) (hin4 : vp_in (x3 + 4) Ls) (hin5 : vp_in (x3 + 5) Ls) (hcs : cs + 25 ≤ MC) (hss : ss + 4060 ≤ MS) (hW : WF sv ns) (hI : INV ns vi vl) (hok : OK18 INV)
    (kk : ∀ (sv1 : SV) (vi1 : VI) (vl1 : VL) (ns1 : Nat), WF sv1 ns1 → INV ns1 vi1 vl1 → ∀ cs1 ss1 : Nat, cs1 ≤ cs + 25 → ss1 ≤ ss + 4060 → J G Γ cs1 ss1 1649 [(0, .ref b), (1, .ref (G.1 + 0)), (2, .ref (G.1 + 63)), (3, .int x3)] [] sv1 vi1 vl1) : J G Γ cs ss 859 [(0, .ref b), (1, .ref (G.1 + 0)), (2, .ref (G.1 + 63)), (3, .int x3)] [] sv vi vl := by
  obtain ⟨r, vi1, vl1, hrx, vi2, vl2, hry, hI1⟩ := hok ns vi vl (xs (x3 + 1).toNatClampNeg) hI
  refine j_aload_n B dL_law_859 rfl 1 rfl ?_
  refine j_aload_n B dL_law_860 rfl 0 rfl ?_
  refine j_iload_n B dL_law_861 rfl 3 rfl ?_
  refine j_iconst B dL_law_862 (v := 1) (by decide) ?_
  refine j_iadd B dL_law_863 ?_
  refine j_sld B A hin1 dL_law_864 ?_
  refine j_cVI (rest := []) B (tX9_least hW hrx) cls9 (wf_2 hW) jt_RL_91 wi_X9_least ws_X9_least rfl (by omega) (by omega) (by omega) rfl (Nat.le_of_ble_eq_true rfl) dL_law_865 ?_
  refine j_aload_n B dL_law_868 rfl 2 rfl ?_
  refine j_aload_n B dL_law_869 rfl 0 rfl ?_
  refine j_iload_n B dL_law_870 rfl 3 rfl ?_
  refine j_iconst B dL_law_871 (v := 1) (by decide) ?_
  refine j_iadd B dL_law_872 ?_
  refine j_sld B A hin1 dL_law_873 ?_
  refine j_cVI (rest := [.int r]) B (tX10_least hW hry) cls10 (wf_65 hW) jt_RL_94 wi_X10_least ws_X10_least rfl (by omega) (by omega) (by omega) rfl (Nat.le_of_ble_eq_true rfl) dL_law_874 ?_
  refine j_icmp_eq (tgt := 1649) B dL_law_877 (by decide) (fun _ => ?_) (fun c => absurd rfl c)
  exact kk sv vi2 vl2 ns hW hI1 cs ss (by omega) (by omega)
theorem lwc_19 {G : GT} {Γ : CT} {MC MS cs ss b Ls ns : Nat} {xs : Nat → Int32} {sv : SV} {vi : VI} {vl : VL} {x3 : Int32} {INV : Nat → VI → VL → Prop} (B : Base G Γ mL 1300 MC MS) (A : LawAt G Γ b Ls xs) (hin1 : vp_in (x3 + 1) Ls) (hin2 : vp_in (x3 + 2) Ls) (hin3 : vp_in (x3 + 3) Ls) (hin4 : vp_in (x3 + 4) Ls) (hin5 : vp_in (x3 + 5) Ls) (hcs : cs + 25 ≤ MC) (hss : ss + 4060 ≤ MS) (hW : WF sv ns) (hI : INV ns vi vl) (hok : OK19 INV)
    (kk : ∀ (sv1 : SV) (vi1 : VI) (vl1 : VL) (ns1 : Nat), WF sv1 ns1 → INV ns1 vi1 vl1 → ∀ cs1 ss1 : Nat, cs1 ≤ cs + 25 → ss1 ≤ ss + 4060 → J G Γ cs1 ss1 1649 [(0, .ref b), (1, .ref (G.1 + 0)), (2, .ref (G.1 + 63)), (3, .int x3)] [] sv1 vi1 vl1) : J G Γ cs ss 882 [(0, .ref b), (1, .ref (G.1 + 0)), (2, .ref (G.1 + 63)), (3, .int x3)] [] sv vi vl := by
  obtain ⟨r, vi1, vl1, hrx, vi2, vl2, hry, hI1⟩ := hok ns vi vl (xs (x3 + 1).toNatClampNeg) (xs (x3 + 2).toNatClampNeg) hI
  refine j_aload_n B dL_law_882 rfl 1 rfl ?_
  refine j_aload_n B dL_law_883 rfl 0 rfl ?_
  refine j_iload_n B dL_law_884 rfl 3 rfl ?_
  refine j_iconst B dL_law_885 (v := 1) (by decide) ?_
  refine j_iadd B dL_law_886 ?_
  refine j_sld B A hin1 dL_law_887 ?_
  refine j_aload_n B dL_law_888 rfl 0 rfl ?_
  refine j_iload_n B dL_law_889 rfl 3 rfl ?_
  refine j_iconst B dL_law_890 (v := 2) (by decide) ?_
  refine j_iadd B dL_law_891 ?_
  refine j_sld B A hin2 dL_law_892 ?_
  refine j_cVI (rest := []) B (tX9_certain hW hrx) cls9 (wf_2 hW) jt_RL_95 wi_X9_certain ws_X9_certain rfl (by omega) (by omega) (by omega) rfl (Nat.le_of_ble_eq_true rfl) dL_law_893 ?_
  refine j_aload_n B dL_law_896 rfl 2 rfl ?_
  refine j_aload_n B dL_law_897 rfl 0 rfl ?_
  refine j_iload_n B dL_law_898 rfl 3 rfl ?_
  refine j_iconst B dL_law_899 (v := 1) (by decide) ?_
  refine j_iadd B dL_law_900 ?_
  refine j_sld B A hin1 dL_law_901 ?_
  refine j_aload_n B dL_law_902 rfl 0 rfl ?_
  refine j_iload_n B dL_law_903 rfl 3 rfl ?_
  refine j_iconst B dL_law_904 (v := 2) (by decide) ?_
  refine j_iadd B dL_law_905 ?_
  refine j_sld B A hin2 dL_law_906 ?_
  refine j_cVI (rest := [.int r]) B (tX10_certain hW hry) cls10 (wf_65 hW) jt_RL_98 wi_X10_certain ws_X10_certain rfl (by omega) (by omega) (by omega) rfl (Nat.le_of_ble_eq_true rfl) dL_law_907 ?_
  refine j_icmp_eq (tgt := 1649) B dL_law_910 (by decide) (fun _ => ?_) (fun c => absurd rfl c)
  exact kk sv vi2 vl2 ns hW hI1 cs ss (by omega) (by omega)
theorem lwc_20 {G : GT} {Γ : CT} {MC MS cs ss b Ls ns : Nat} {xs : Nat → Int32} {sv : SV} {vi : VI} {vl : VL} {x3 : Int32} {INV : Nat → VI → VL → Prop} (B : Base G Γ mL 1300 MC MS) (A : LawAt G Γ b Ls xs) (hin1 : vp_in (x3 + 1) Ls) (hin2 : vp_in (x3 + 2) Ls) (hin3 : vp_in (x3 + 3) Ls) (hin4 : vp_in (x3 + 4) Ls) (hin5 : vp_in (x3 + 5) Ls) (hcs : cs + 25 ≤ MC) (hss : ss + 4060 ≤ MS) (hW : WF sv ns) (hI : INV ns vi vl) (hok : OK20 INV)
    (kk : ∀ (sv1 : SV) (vi1 : VI) (vl1 : VL) (ns1 : Nat), WF sv1 ns1 → INV ns1 vi1 vl1 → ∀ cs1 ss1 : Nat, cs1 ≤ cs + 25 → ss1 ≤ ss + 4060 → J G Γ cs1 ss1 1649 [(0, .ref b), (1, .ref (G.1 + 0)), (2, .ref (G.1 + 63)), (3, .int x3)] [] sv1 vi1 vl1) : J G Γ cs ss 915 [(0, .ref b), (1, .ref (G.1 + 0)), (2, .ref (G.1 + 63)), (3, .int x3)] [] sv vi vl := by
  obtain ⟨r, vi1, hrx, vi2, hry, hI1⟩ := hok ns vi vl (xs (x3 + 1).toNatClampNeg) (xs (x3 + 2).toNatClampNeg) hI
  refine j_aload_n B dL_law_915 rfl 1 rfl ?_
  refine j_aload_n B dL_law_916 rfl 0 rfl ?_
  refine j_iload_n B dL_law_917 rfl 3 rfl ?_
  refine j_iconst B dL_law_918 (v := 1) (by decide) ?_
  refine j_iadd B dL_law_919 ?_
  refine j_sld B A hin1 dL_law_920 ?_
  refine j_aload_n B dL_law_921 rfl 0 rfl ?_
  refine j_iload_n B dL_law_922 rfl 3 rfl ?_
  refine j_iconst B dL_law_923 (v := 2) (by decide) ?_
  refine j_iadd B dL_law_924 ?_
  refine j_sld B A hin2 dL_law_925 ?_
  refine j_cVI (rest := []) B (tX9_alike hW hrx) cls9 (wf_2 hW) jt_RL_99 wi_X9_alike ws_X9_alike rfl (by omega) (by omega) (by omega) rfl (Nat.le_of_ble_eq_true rfl) dL_law_926 ?_
  refine j_aload_n B dL_law_929 rfl 2 rfl ?_
  refine j_aload_n B dL_law_930 rfl 0 rfl ?_
  refine j_iload_n B dL_law_931 rfl 3 rfl ?_
  refine j_iconst B dL_law_932 (v := 1) (by decide) ?_
  refine j_iadd B dL_law_933 ?_
  refine j_sld B A hin1 dL_law_934 ?_
  refine j_aload_n B dL_law_935 rfl 0 rfl ?_
  refine j_iload_n B dL_law_936 rfl 3 rfl ?_
  refine j_iconst B dL_law_937 (v := 2) (by decide) ?_
  refine j_iadd B dL_law_938 ?_
  refine j_sld B A hin2 dL_law_939 ?_
  refine j_cVI (rest := [.int r]) B (tX10_alike hW hry) cls10 (wf_65 hW) jt_RL_102 wi_X10_alike ws_X10_alike rfl (by omega) (by omega) (by omega) rfl (Nat.le_of_ble_eq_true rfl) dL_law_940 ?_
  refine j_icmp_eq (tgt := 1649) B dL_law_943 (by decide) (fun _ => ?_) (fun c => absurd rfl c)
  exact kk sv vi2 vl ns hW hI1 cs ss (by omega) (by omega)
theorem lwc_21 {G : GT} {Γ : CT} {MC MS cs ss b Ls ns : Nat} {xs : Nat → Int32} {sv : SV} {vi : VI} {vl : VL} {x3 : Int32} {INV : Nat → VI → VL → Prop} (B : Base G Γ mL 1300 MC MS) (A : LawAt G Γ b Ls xs) (hin1 : vp_in (x3 + 1) Ls) (hin2 : vp_in (x3 + 2) Ls) (hin3 : vp_in (x3 + 3) Ls) (hin4 : vp_in (x3 + 4) Ls) (hin5 : vp_in (x3 + 5) Ls) (hcs : cs + 25 ≤ MC) (hss : ss + 4060 ≤ MS) (hW : WF sv ns) (hI : INV ns vi vl) (hok : OK21 INV)
    (kk : ∀ (sv1 : SV) (vi1 : VI) (vl1 : VL) (ns1 : Nat), WF sv1 ns1 → INV ns1 vi1 vl1 → ∀ cs1 ss1 : Nat, cs1 ≤ cs + 25 → ss1 ≤ ss + 4060 → J G Γ cs1 ss1 1649 [(0, .ref b), (1, .ref (G.1 + 0)), (2, .ref (G.1 + 63)), (3, .int x3)] [] sv1 vi1 vl1) : J G Γ cs ss 948 [(0, .ref b), (1, .ref (G.1 + 0)), (2, .ref (G.1 + 63)), (3, .int x3)] [] sv vi vl := by
  obtain ⟨r, hrx, hry, hI1⟩ := hok ns vi vl (xs (x3 + 1).toNatClampNeg) hI
  refine j_aload_n B dL_law_948 rfl 1 rfl ?_
  refine j_aload_n B dL_law_949 rfl 0 rfl ?_
  refine j_iload_n B dL_law_950 rfl 3 rfl ?_
  refine j_iconst B dL_law_951 (v := 1) (by decide) ?_
  refine j_iadd B dL_law_952 ?_
  refine j_sld B A hin1 dL_law_953 ?_
  refine j_cVI (rest := []) B (tX9_same hW hrx) cls9 (wf_2 hW) jt_RL_103 wi_X9_same ws_X9_same rfl (by omega) (by omega) (by omega) rfl (Nat.le_of_ble_eq_true rfl) dL_law_954 ?_
  refine j_aload_n B dL_law_957 rfl 2 rfl ?_
  refine j_aload_n B dL_law_958 rfl 0 rfl ?_
  refine j_iload_n B dL_law_959 rfl 3 rfl ?_
  refine j_iconst B dL_law_960 (v := 1) (by decide) ?_
  refine j_iadd B dL_law_961 ?_
  refine j_sld B A hin1 dL_law_962 ?_
  refine j_cVI (rest := [.int r]) B (tX10_same hW hry) cls10 (wf_65 hW) jt_RL_106 wi_X10_same ws_X10_same rfl (by omega) (by omega) (by omega) rfl (Nat.le_of_ble_eq_true rfl) dL_law_963 ?_
  refine j_icmp_eq (tgt := 1649) B dL_law_966 (by decide) (fun _ => ?_) (fun c => absurd rfl c)
  exact kk sv vi vl ns hW hI1 cs ss (by omega) (by omega)
theorem lwc_22 {G : GT} {Γ : CT} {MC MS cs ss b Ls ns : Nat} {xs : Nat → Int32} {sv : SV} {vi : VI} {vl : VL} {x3 : Int32} {INV : Nat → VI → VL → Prop} (B : Base G Γ mL 1300 MC MS) (A : LawAt G Γ b Ls xs) (hin1 : vp_in (x3 + 1) Ls) (hin2 : vp_in (x3 + 2) Ls) (hin3 : vp_in (x3 + 3) Ls) (hin4 : vp_in (x3 + 4) Ls) (hin5 : vp_in (x3 + 5) Ls) (hcs : cs + 25 ≤ MC) (hss : ss + 4060 ≤ MS) (hW : WF sv ns) (hI : INV ns vi vl) (hok : OK22 INV)
    (kk : ∀ (sv1 : SV) (vi1 : VI) (vl1 : VL) (ns1 : Nat), WF sv1 ns1 → INV ns1 vi1 vl1 → ∀ cs1 ss1 : Nat, cs1 ≤ cs + 25 → ss1 ≤ ss + 4060 → J G Γ cs1 ss1 1649 [(0, .ref b), (1, .ref (G.1 + 0)), (2, .ref (G.1 + 63)), (3, .int x3)] [] sv1 vi1 vl1) : J G Γ cs ss 971 [(0, .ref b), (1, .ref (G.1 + 0)), (2, .ref (G.1 + 63)), (3, .int x3)] [] sv vi vl := by
  obtain ⟨r, hrx, hry, hI1⟩ := hok ns vi vl (xs (x3 + 1).toNatClampNeg) (xs (x3 + 2).toNatClampNeg) hI
  refine j_aload_n B dL_law_971 rfl 1 rfl ?_
  refine j_aload_n B dL_law_972 rfl 0 rfl ?_
  refine j_iload_n B dL_law_973 rfl 3 rfl ?_
  refine j_iconst B dL_law_974 (v := 1) (by decide) ?_
  refine j_iadd B dL_law_975 ?_
  refine j_sld B A hin1 dL_law_976 ?_
  refine j_aload_n B dL_law_977 rfl 0 rfl ?_
  refine j_iload_n B dL_law_978 rfl 3 rfl ?_
  refine j_iconst B dL_law_979 (v := 2) (by decide) ?_
  refine j_iadd B dL_law_980 ?_
  refine j_sld B A hin2 dL_law_981 ?_
  refine j_cVJ (rest := []) B (tX9_likely hW hrx) cls9 (wf_2 hW) jt_RL_107 wi_X9_likely ws_X9_likely rfl (by omega) (by omega) (by omega) rfl (Nat.le_of_ble_eq_true rfl) dL_law_982 ?_
  refine j_aload_n B dL_law_985 rfl 2 rfl ?_
  refine j_aload_n B dL_law_986 rfl 0 rfl ?_
  refine j_iload_n B dL_law_987 rfl 3 rfl ?_
  refine j_iconst B dL_law_988 (v := 1) (by decide) ?_
  refine j_iadd B dL_law_989 ?_
  refine j_sld B A hin1 dL_law_990 ?_
  refine j_aload_n B dL_law_991 rfl 0 rfl ?_
  refine j_iload_n B dL_law_992 rfl 3 rfl ?_
  refine j_iconst B dL_law_993 (v := 2) (by decide) ?_
  refine j_iadd B dL_law_994 ?_
  refine j_sld B A hin2 dL_law_995 ?_
  refine j_cVJ (rest := [.long r]) B (tX10_likely hW hry) cls10 (wf_65 hW) jt_RL_110 wi_X10_likely ws_X10_likely rfl (by omega) (by omega) (by omega) rfl (Nat.le_of_ble_eq_true rfl) dL_law_996 ?_
  refine j_lcmp B dL_law_999 ?_
  refine j_if_eq (tgt := 1649) B dL_law_1000 (by decide) (fun _ => ?_) (fun c => absurd (lg_self r) c)
  exact kk sv vi vl ns hW hI1 cs ss (by omega) (by omega)
theorem lwc_23 {G : GT} {Γ : CT} {MC MS cs ss b Ls ns : Nat} {xs : Nat → Int32} {sv : SV} {vi : VI} {vl : VL} {x3 : Int32} {INV : Nat → VI → VL → Prop} (B : Base G Γ mL 1300 MC MS) (A : LawAt G Γ b Ls xs) (hin1 : vp_in (x3 + 1) Ls) (hin2 : vp_in (x3 + 2) Ls) (hin3 : vp_in (x3 + 3) Ls) (hin4 : vp_in (x3 + 4) Ls) (hin5 : vp_in (x3 + 5) Ls) (hcs : cs + 25 ≤ MC) (hss : ss + 4060 ≤ MS) (hW : WF sv ns) (hI : INV ns vi vl) (hok : OK23 INV)
    (kk : ∀ (sv1 : SV) (vi1 : VI) (vl1 : VL) (ns1 : Nat), WF sv1 ns1 → INV ns1 vi1 vl1 → ∀ cs1 ss1 : Nat, cs1 ≤ cs + 25 → ss1 ≤ ss + 4060 → J G Γ cs1 ss1 1649 [(0, .ref b), (1, .ref (G.1 + 0)), (2, .ref (G.1 + 63)), (3, .int x3)] [] sv1 vi1 vl1) : J G Γ cs ss 1005 [(0, .ref b), (1, .ref (G.1 + 0)), (2, .ref (G.1 + 63)), (3, .int x3)] [] sv vi vl := by
  obtain ⟨r, hrx, hry, hI1⟩ := hok ns vi vl  hI
  refine j_aload_n B dL_law_1005 rfl 1 rfl ?_
  refine j_cVI (rest := []) B (tX9_expected hW hrx) cls9 (wf_2 hW) jt_RL_111 wi_X9_expected ws_X9_expected rfl (by omega) (by omega) (by omega) rfl (Nat.le_of_ble_eq_true rfl) dL_law_1006 ?_
  refine j_aload_n B dL_law_1009 rfl 2 rfl ?_
  refine j_cVI (rest := [.int r]) B (tX10_expected hW hry) cls10 (wf_65 hW) jt_RL_114 wi_X10_expected ws_X10_expected rfl (by omega) (by omega) (by omega) rfl (Nat.le_of_ble_eq_true rfl) dL_law_1010 ?_
  refine j_icmp_eq (tgt := 1649) B dL_law_1013 (by decide) (fun _ => ?_) (fun c => absurd rfl c)
  exact kk sv vi vl ns hW hI1 cs ss (by omega) (by omega)
theorem lwc_24 {G : GT} {Γ : CT} {MC MS cs ss b Ls ns : Nat} {xs : Nat → Int32} {sv : SV} {vi : VI} {vl : VL} {x3 : Int32} {INV : Nat → VI → VL → Prop} (B : Base G Γ mL 1300 MC MS) (A : LawAt G Γ b Ls xs) (hin1 : vp_in (x3 + 1) Ls) (hin2 : vp_in (x3 + 2) Ls) (hin3 : vp_in (x3 + 3) Ls) (hin4 : vp_in (x3 + 4) Ls) (hin5 : vp_in (x3 + 5) Ls) (hcs : cs + 25 ≤ MC) (hss : ss + 4060 ≤ MS) (hW : WF sv ns) (hI : INV ns vi vl) (hok : OK24 INV)
    (kk : ∀ (sv1 : SV) (vi1 : VI) (vl1 : VL) (ns1 : Nat), WF sv1 ns1 → INV ns1 vi1 vl1 → ∀ cs1 ss1 : Nat, cs1 ≤ cs + 25 → ss1 ≤ ss + 4060 → J G Γ cs1 ss1 1649 [(0, .ref b), (1, .ref (G.1 + 0)), (2, .ref (G.1 + 63)), (3, .int x3)] [] sv1 vi1 vl1) : J G Γ cs ss 1018 [(0, .ref b), (1, .ref (G.1 + 0)), (2, .ref (G.1 + 63)), (3, .int x3)] [] sv vi vl := by
  obtain ⟨r, hrx, hry, hI1⟩ := hok ns vi vl (xs (x3 + 1).toNatClampNeg) (xs (x3 + 2).toNatClampNeg) hI
  refine j_aload_n B dL_law_1018 rfl 1 rfl ?_
  refine j_aload_n B dL_law_1019 rfl 0 rfl ?_
  refine j_iload_n B dL_law_1020 rfl 3 rfl ?_
  refine j_iconst B dL_law_1021 (v := 1) (by decide) ?_
  refine j_iadd B dL_law_1022 ?_
  refine j_sld B A hin1 dL_law_1023 ?_
  refine j_aload_n B dL_law_1024 rfl 0 rfl ?_
  refine j_iload_n B dL_law_1025 rfl 3 rfl ?_
  refine j_iconst B dL_law_1026 (v := 2) (by decide) ?_
  refine j_iadd B dL_law_1027 ?_
  refine j_sld B A hin2 dL_law_1028 ?_
  refine j_cVI (rest := []) B (tX9_judge hW hrx) cls9 (wf_2 hW) jt_RL_115 wi_X9_judge ws_X9_judge rfl (by omega) (by omega) (by omega) rfl (Nat.le_of_ble_eq_true rfl) dL_law_1029 ?_
  refine j_aload_n B dL_law_1032 rfl 2 rfl ?_
  refine j_aload_n B dL_law_1033 rfl 0 rfl ?_
  refine j_iload_n B dL_law_1034 rfl 3 rfl ?_
  refine j_iconst B dL_law_1035 (v := 1) (by decide) ?_
  refine j_iadd B dL_law_1036 ?_
  refine j_sld B A hin1 dL_law_1037 ?_
  refine j_aload_n B dL_law_1038 rfl 0 rfl ?_
  refine j_iload_n B dL_law_1039 rfl 3 rfl ?_
  refine j_iconst B dL_law_1040 (v := 2) (by decide) ?_
  refine j_iadd B dL_law_1041 ?_
  refine j_sld B A hin2 dL_law_1042 ?_
  refine j_cVI (rest := [.int r]) B (tX10_judge hW hry) cls10 (wf_65 hW) jt_RL_118 wi_X10_judge ws_X10_judge rfl (by omega) (by omega) (by omega) rfl (Nat.le_of_ble_eq_true rfl) dL_law_1043 ?_
  refine j_icmp_eq (tgt := 1649) B dL_law_1046 (by decide) (fun _ => ?_) (fun c => absurd rfl c)
  exact kk sv vi vl ns hW hI1 cs ss (by omega) (by omega)
theorem lwc_25 {G : GT} {Γ : CT} {MC MS cs ss b Ls ns : Nat} {xs : Nat → Int32} {sv : SV} {vi : VI} {vl : VL} {x3 : Int32} {INV : Nat → VI → VL → Prop} (B : Base G Γ mL 1300 MC MS) (A : LawAt G Γ b Ls xs) (hin1 : vp_in (x3 + 1) Ls) (hin2 : vp_in (x3 + 2) Ls) (hin3 : vp_in (x3 + 3) Ls) (hin4 : vp_in (x3 + 4) Ls) (hin5 : vp_in (x3 + 5) Ls) (hcs : cs + 25 ≤ MC) (hss : ss + 4060 ≤ MS) (hW : WF sv ns) (hI : INV ns vi vl) (hok : OK25 INV)
    (kk : ∀ (sv1 : SV) (vi1 : VI) (vl1 : VL) (ns1 : Nat), WF sv1 ns1 → INV ns1 vi1 vl1 → ∀ cs1 ss1 : Nat, cs1 ≤ cs + 25 → ss1 ≤ ss + 4060 → J G Γ cs1 ss1 1649 [(0, .ref b), (1, .ref (G.1 + 0)), (2, .ref (G.1 + 63)), (3, .int x3)] [] sv1 vi1 vl1) : J G Γ cs ss 1051 [(0, .ref b), (1, .ref (G.1 + 0)), (2, .ref (G.1 + 63)), (3, .int x3)] [] sv vi vl := by
  obtain ⟨r, vi1, hrx, vi2, hry, hI1⟩ := hok ns vi vl (xs (x3 + 1).toNatClampNeg) (xs (x3 + 2).toNatClampNeg) (xs (x3 + 3).toNatClampNeg) (xs (x3 + 4).toNatClampNeg) hI
  refine j_aload_n B dL_law_1051 rfl 1 rfl ?_
  refine j_aload_n B dL_law_1052 rfl 0 rfl ?_
  refine j_iload_n B dL_law_1053 rfl 3 rfl ?_
  refine j_iconst B dL_law_1054 (v := 1) (by decide) ?_
  refine j_iadd B dL_law_1055 ?_
  refine j_sld B A hin1 dL_law_1056 ?_
  refine j_aload_n B dL_law_1057 rfl 0 rfl ?_
  refine j_iload_n B dL_law_1058 rfl 3 rfl ?_
  refine j_iconst B dL_law_1059 (v := 2) (by decide) ?_
  refine j_iadd B dL_law_1060 ?_
  refine j_sld B A hin2 dL_law_1061 ?_
  refine j_aload_n B dL_law_1062 rfl 0 rfl ?_
  refine j_iload_n B dL_law_1063 rfl 3 rfl ?_
  refine j_iconst B dL_law_1064 (v := 3) (by decide) ?_
  refine j_iadd B dL_law_1065 ?_
  refine j_sld B A hin3 dL_law_1066 ?_
  refine j_aload_n B dL_law_1067 rfl 0 rfl ?_
  refine j_iload_n B dL_law_1068 rfl 3 rfl ?_
  refine j_iconst B dL_law_1069 (v := 4) (by decide) ?_
  refine j_iadd B dL_law_1070 ?_
  refine j_sld B A hin4 dL_law_1071 ?_
  refine j_cVI (rest := []) B (tX9_drawn hW hrx) cls9 (wf_2 hW) jt_RL_119 wi_X9_drawn ws_X9_drawn rfl (by omega) (by omega) (by omega) rfl (Nat.le_of_ble_eq_true rfl) dL_law_1072 ?_
  refine j_aload_n B dL_law_1075 rfl 2 rfl ?_
  refine j_aload_n B dL_law_1076 rfl 0 rfl ?_
  refine j_iload_n B dL_law_1077 rfl 3 rfl ?_
  refine j_iconst B dL_law_1078 (v := 1) (by decide) ?_
  refine j_iadd B dL_law_1079 ?_
  refine j_sld B A hin1 dL_law_1080 ?_
  refine j_aload_n B dL_law_1081 rfl 0 rfl ?_
  refine j_iload_n B dL_law_1082 rfl 3 rfl ?_
  refine j_iconst B dL_law_1083 (v := 2) (by decide) ?_
  refine j_iadd B dL_law_1084 ?_
  refine j_sld B A hin2 dL_law_1085 ?_
  refine j_aload_n B dL_law_1086 rfl 0 rfl ?_
  refine j_iload_n B dL_law_1087 rfl 3 rfl ?_
  refine j_iconst B dL_law_1088 (v := 3) (by decide) ?_
  refine j_iadd B dL_law_1089 ?_
  refine j_sld B A hin3 dL_law_1090 ?_
  refine j_aload_n B dL_law_1091 rfl 0 rfl ?_
  refine j_iload_n B dL_law_1092 rfl 3 rfl ?_
  refine j_iconst B dL_law_1093 (v := 4) (by decide) ?_
  refine j_iadd B dL_law_1094 ?_
  refine j_sld B A hin4 dL_law_1095 ?_
  refine j_cVI (rest := [.int r]) B (tX10_drawn hW hry) cls10 (wf_65 hW) jt_RL_122 wi_X10_drawn ws_X10_drawn rfl (by omega) (by omega) (by omega) rfl (Nat.le_of_ble_eq_true rfl) dL_law_1096 ?_
  refine j_icmp_eq (tgt := 1649) B dL_law_1099 (by decide) (fun _ => ?_) (fun c => absurd rfl c)
  exact kk sv vi2 vl ns hW hI1 cs ss (by omega) (by omega)
theorem lwc_26 {G : GT} {Γ : CT} {MC MS cs ss b Ls ns : Nat} {xs : Nat → Int32} {sv : SV} {vi : VI} {vl : VL} {x3 : Int32} {INV : Nat → VI → VL → Prop} (B : Base G Γ mL 1300 MC MS) (A : LawAt G Γ b Ls xs) (hin1 : vp_in (x3 + 1) Ls) (hin2 : vp_in (x3 + 2) Ls) (hin3 : vp_in (x3 + 3) Ls) (hin4 : vp_in (x3 + 4) Ls) (hin5 : vp_in (x3 + 5) Ls) (hcs : cs + 25 ≤ MC) (hss : ss + 4060 ≤ MS) (hW : WF sv ns) (hI : INV ns vi vl) (hok : OK26 INV)
    (kk : ∀ (sv1 : SV) (vi1 : VI) (vl1 : VL) (ns1 : Nat), WF sv1 ns1 → INV ns1 vi1 vl1 → ∀ cs1 ss1 : Nat, cs1 ≤ cs + 25 → ss1 ≤ ss + 4060 → J G Γ cs1 ss1 1649 [(0, .ref b), (1, .ref (G.1 + 0)), (2, .ref (G.1 + 63)), (3, .int x3)] [] sv1 vi1 vl1) : J G Γ cs ss 1104 [(0, .ref b), (1, .ref (G.1 + 0)), (2, .ref (G.1 + 63)), (3, .int x3)] [] sv vi vl := by
  obtain ⟨r, vi1, hrx, vi2, hry, hI1⟩ := hok ns vi vl (xs (x3 + 1).toNatClampNeg) hI
  refine j_aload_n B dL_law_1104 rfl 1 rfl ?_
  refine j_aload_n B dL_law_1105 rfl 0 rfl ?_
  refine j_iload_n B dL_law_1106 rfl 3 rfl ?_
  refine j_iconst B dL_law_1107 (v := 1) (by decide) ?_
  refine j_iadd B dL_law_1108 ?_
  refine j_sld B A hin1 dL_law_1109 ?_
  refine j_cVI (rest := []) B (tX9_look hW hrx) cls9 (wf_2 hW) jt_RL_123 wi_X9_look ws_X9_look rfl (by omega) (by omega) (by omega) rfl (Nat.le_of_ble_eq_true rfl) dL_law_1110 ?_
  refine j_aload_n B dL_law_1113 rfl 2 rfl ?_
  refine j_aload_n B dL_law_1114 rfl 0 rfl ?_
  refine j_iload_n B dL_law_1115 rfl 3 rfl ?_
  refine j_iconst B dL_law_1116 (v := 1) (by decide) ?_
  refine j_iadd B dL_law_1117 ?_
  refine j_sld B A hin1 dL_law_1118 ?_
  refine j_cVI (rest := [.int r]) B (tX10_look hW hry) cls10 (wf_65 hW) jt_RL_126 wi_X10_look ws_X10_look rfl (by omega) (by omega) (by omega) rfl (Nat.le_of_ble_eq_true rfl) dL_law_1119 ?_
  refine j_icmp_eq (tgt := 1649) B dL_law_1122 (by decide) (fun _ => ?_) (fun c => absurd rfl c)
  exact kk sv vi2 vl ns hW hI1 cs ss (by omega) (by omega)
theorem lwc_27 {G : GT} {Γ : CT} {MC MS cs ss b Ls ns : Nat} {xs : Nat → Int32} {sv : SV} {vi : VI} {vl : VL} {x3 : Int32} {INV : Nat → VI → VL → Prop} (B : Base G Γ mL 1300 MC MS) (A : LawAt G Γ b Ls xs) (hin1 : vp_in (x3 + 1) Ls) (hin2 : vp_in (x3 + 2) Ls) (hin3 : vp_in (x3 + 3) Ls) (hin4 : vp_in (x3 + 4) Ls) (hin5 : vp_in (x3 + 5) Ls) (hcs : cs + 25 ≤ MC) (hss : ss + 4060 ≤ MS) (hW : WF sv ns) (hI : INV ns vi vl) (hok : OK27 INV)
    (kk : ∀ (sv1 : SV) (vi1 : VI) (vl1 : VL) (ns1 : Nat), WF sv1 ns1 → INV ns1 vi1 vl1 → ∀ cs1 ss1 : Nat, cs1 ≤ cs + 25 → ss1 ≤ ss + 4060 → J G Γ cs1 ss1 1649 [(0, .ref b), (1, .ref (G.1 + 0)), (2, .ref (G.1 + 63)), (3, .int x3)] [] sv1 vi1 vl1) : J G Γ cs ss 1127 [(0, .ref b), (1, .ref (G.1 + 0)), (2, .ref (G.1 + 63)), (3, .int x3)] [] sv vi vl := by
  obtain ⟨r, vi1, hrx, vi2, hry, hI1⟩ := hok ns vi vl (xs (x3 + 1).toNatClampNeg) (xs (x3 + 2).toNatClampNeg) hI
  refine j_aload_n B dL_law_1127 rfl 1 rfl ?_
  refine j_aload_n B dL_law_1128 rfl 0 rfl ?_
  refine j_iload_n B dL_law_1129 rfl 3 rfl ?_
  refine j_iconst B dL_law_1130 (v := 1) (by decide) ?_
  refine j_iadd B dL_law_1131 ?_
  refine j_sld B A hin1 dL_law_1132 ?_
  refine j_aload_n B dL_law_1133 rfl 0 rfl ?_
  refine j_iload_n B dL_law_1134 rfl 3 rfl ?_
  refine j_iconst B dL_law_1135 (v := 2) (by decide) ?_
  refine j_iadd B dL_law_1136 ?_
  refine j_sld B A hin2 dL_law_1137 ?_
  refine j_cVI (rest := []) B (tX9_blow hW hrx) cls9 (wf_2 hW) jt_RL_127 wi_X9_blow ws_X9_blow rfl (by omega) (by omega) (by omega) rfl (Nat.le_of_ble_eq_true rfl) dL_law_1138 ?_
  refine j_aload_n B dL_law_1141 rfl 2 rfl ?_
  refine j_aload_n B dL_law_1142 rfl 0 rfl ?_
  refine j_iload_n B dL_law_1143 rfl 3 rfl ?_
  refine j_iconst B dL_law_1144 (v := 1) (by decide) ?_
  refine j_iadd B dL_law_1145 ?_
  refine j_sld B A hin1 dL_law_1146 ?_
  refine j_aload_n B dL_law_1147 rfl 0 rfl ?_
  refine j_iload_n B dL_law_1148 rfl 3 rfl ?_
  refine j_iconst B dL_law_1149 (v := 2) (by decide) ?_
  refine j_iadd B dL_law_1150 ?_
  refine j_sld B A hin2 dL_law_1151 ?_
  refine j_cVI (rest := [.int r]) B (tX10_blow hW hry) cls10 (wf_65 hW) jt_RL_130 wi_X10_blow ws_X10_blow rfl (by omega) (by omega) (by omega) rfl (Nat.le_of_ble_eq_true rfl) dL_law_1152 ?_
  refine j_icmp_eq (tgt := 1649) B dL_law_1155 (by decide) (fun _ => ?_) (fun c => absurd rfl c)
  exact kk sv vi2 vl ns hW hI1 cs ss (by omega) (by omega)
theorem lwc_28 {G : GT} {Γ : CT} {MC MS cs ss b Ls ns : Nat} {xs : Nat → Int32} {sv : SV} {vi : VI} {vl : VL} {x3 : Int32} {INV : Nat → VI → VL → Prop} (B : Base G Γ mL 1300 MC MS) (A : LawAt G Γ b Ls xs) (hin1 : vp_in (x3 + 1) Ls) (hin2 : vp_in (x3 + 2) Ls) (hin3 : vp_in (x3 + 3) Ls) (hin4 : vp_in (x3 + 4) Ls) (hin5 : vp_in (x3 + 5) Ls) (hcs : cs + 25 ≤ MC) (hss : ss + 4060 ≤ MS) (hW : WF sv ns) (hI : INV ns vi vl) (hok : OK28 INV)
    (kk : ∀ (sv1 : SV) (vi1 : VI) (vl1 : VL) (ns1 : Nat), WF sv1 ns1 → INV ns1 vi1 vl1 → ∀ cs1 ss1 : Nat, cs1 ≤ cs + 25 → ss1 ≤ ss + 4060 → J G Γ cs1 ss1 1649 [(0, .ref b), (1, .ref (G.1 + 0)), (2, .ref (G.1 + 63)), (3, .int x3)] [] sv1 vi1 vl1) : J G Γ cs ss 1160 [(0, .ref b), (1, .ref (G.1 + 0)), (2, .ref (G.1 + 63)), (3, .int x3)] [] sv vi vl := by
  obtain ⟨r, vi1, hrx, vi2, hry, hI1⟩ := hok ns vi vl (xs (x3 + 1).toNatClampNeg) hI
  refine j_aload_n B dL_law_1160 rfl 1 rfl ?_
  refine j_aload_n B dL_law_1161 rfl 0 rfl ?_
  refine j_iload_n B dL_law_1162 rfl 3 rfl ?_
  refine j_iconst B dL_law_1163 (v := 1) (by decide) ?_
  refine j_iadd B dL_law_1164 ?_
  refine j_sld B A hin1 dL_law_1165 ?_
  refine j_cVI (rest := []) B (tX9_sweep hW hrx) cls9 (wf_2 hW) jt_RL_131 wi_X9_sweep ws_X9_sweep rfl (by omega) (by omega) (by omega) rfl (Nat.le_of_ble_eq_true rfl) dL_law_1166 ?_
  refine j_aload_n B dL_law_1169 rfl 2 rfl ?_
  refine j_aload_n B dL_law_1170 rfl 0 rfl ?_
  refine j_iload_n B dL_law_1171 rfl 3 rfl ?_
  refine j_iconst B dL_law_1172 (v := 1) (by decide) ?_
  refine j_iadd B dL_law_1173 ?_
  refine j_sld B A hin1 dL_law_1174 ?_
  refine j_cVI (rest := [.int r]) B (tX10_sweep hW hry) cls10 (wf_65 hW) jt_RL_134 wi_X10_sweep ws_X10_sweep rfl (by omega) (by omega) (by omega) rfl (Nat.le_of_ble_eq_true rfl) dL_law_1175 ?_
  refine j_icmp_eq (tgt := 1649) B dL_law_1178 (by decide) (fun _ => ?_) (fun c => absurd rfl c)
  exact kk sv vi2 vl ns hW hI1 cs ss (by omega) (by omega)
theorem lwc_29 {G : GT} {Γ : CT} {MC MS cs ss b Ls ns : Nat} {xs : Nat → Int32} {sv : SV} {vi : VI} {vl : VL} {x3 : Int32} {INV : Nat → VI → VL → Prop} (B : Base G Γ mL 1300 MC MS) (A : LawAt G Γ b Ls xs) (hin1 : vp_in (x3 + 1) Ls) (hin2 : vp_in (x3 + 2) Ls) (hin3 : vp_in (x3 + 3) Ls) (hin4 : vp_in (x3 + 4) Ls) (hin5 : vp_in (x3 + 5) Ls) (hcs : cs + 25 ≤ MC) (hss : ss + 4060 ≤ MS) (hW : WF sv ns) (hI : INV ns vi vl) (hok : OK29 INV)
    (kk : ∀ (sv1 : SV) (vi1 : VI) (vl1 : VL) (ns1 : Nat), WF sv1 ns1 → INV ns1 vi1 vl1 → ∀ cs1 ss1 : Nat, cs1 ≤ cs + 25 → ss1 ≤ ss + 4060 → J G Γ cs1 ss1 1649 [(0, .ref b), (1, .ref (G.1 + 0)), (2, .ref (G.1 + 63)), (3, .int x3)] [] sv1 vi1 vl1) : J G Γ cs ss 1183 [(0, .ref b), (1, .ref (G.1 + 0)), (2, .ref (G.1 + 63)), (3, .int x3)] [] sv vi vl := by
  obtain ⟨r, hrx, hry, hI1⟩ := hok ns vi vl (xs (x3 + 1).toNatClampNeg) hI
  refine j_aload_n B dL_law_1183 rfl 1 rfl ?_
  refine j_aload_n B dL_law_1184 rfl 0 rfl ?_
  refine j_iload_n B dL_law_1185 rfl 3 rfl ?_
  refine j_iconst B dL_law_1186 (v := 1) (by decide) ?_
  refine j_iadd B dL_law_1187 ?_
  refine j_sld B A hin1 dL_law_1188 ?_
  refine j_cVI (rest := []) B (tX9_led hW hrx) cls9 (wf_2 hW) jt_RL_135 wi_X9_led ws_X9_led rfl (by omega) (by omega) (by omega) rfl (Nat.le_of_ble_eq_true rfl) dL_law_1189 ?_
  refine j_aload_n B dL_law_1192 rfl 2 rfl ?_
  refine j_aload_n B dL_law_1193 rfl 0 rfl ?_
  refine j_iload_n B dL_law_1194 rfl 3 rfl ?_
  refine j_iconst B dL_law_1195 (v := 1) (by decide) ?_
  refine j_iadd B dL_law_1196 ?_
  refine j_sld B A hin1 dL_law_1197 ?_
  refine j_cVI (rest := [.int r]) B (tX10_led hW hry) cls10 (wf_65 hW) jt_RL_138 wi_X10_led ws_X10_led rfl (by omega) (by omega) (by omega) rfl (Nat.le_of_ble_eq_true rfl) dL_law_1198 ?_
  refine j_icmp_eq (tgt := 1649) B dL_law_1201 (by decide) (fun _ => ?_) (fun c => absurd rfl c)
  exact kk sv vi vl ns hW hI1 cs ss (by omega) (by omega)
theorem lwc_30 {G : GT} {Γ : CT} {MC MS cs ss b Ls ns : Nat} {xs : Nat → Int32} {sv : SV} {vi : VI} {vl : VL} {x3 : Int32} {INV : Nat → VI → VL → Prop} (B : Base G Γ mL 1300 MC MS) (A : LawAt G Γ b Ls xs) (hin1 : vp_in (x3 + 1) Ls) (hin2 : vp_in (x3 + 2) Ls) (hin3 : vp_in (x3 + 3) Ls) (hin4 : vp_in (x3 + 4) Ls) (hin5 : vp_in (x3 + 5) Ls) (hcs : cs + 25 ≤ MC) (hss : ss + 4060 ≤ MS) (hW : WF sv ns) (hI : INV ns vi vl) (hok : OK30 INV)
    (kk : ∀ (sv1 : SV) (vi1 : VI) (vl1 : VL) (ns1 : Nat), WF sv1 ns1 → INV ns1 vi1 vl1 → ∀ cs1 ss1 : Nat, cs1 ≤ cs + 25 → ss1 ≤ ss + 4060 → J G Γ cs1 ss1 1649 [(0, .ref b), (1, .ref (G.1 + 0)), (2, .ref (G.1 + 63)), (3, .int x3)] [] sv1 vi1 vl1) : J G Γ cs ss 1206 [(0, .ref b), (1, .ref (G.1 + 0)), (2, .ref (G.1 + 63)), (3, .int x3)] [] sv vi vl := by
  obtain ⟨r, vi1, hrx, vi2, hry, hI1⟩ := hok ns vi vl  hI
  refine j_aload_n B dL_law_1206 rfl 1 rfl ?_
  refine j_cVI (rest := []) B (tX9_image hW hrx) cls9 (wf_2 hW) jt_RL_139 wi_X9_image ws_X9_image rfl (by omega) (by omega) (by omega) rfl (Nat.le_of_ble_eq_true rfl) dL_law_1207 ?_
  refine j_aload_n B dL_law_1210 rfl 2 rfl ?_
  refine j_cVI (rest := [.int r]) B (tX10_image hW hry) cls10 (wf_65 hW) jt_RL_142 wi_X10_image ws_X10_image rfl (by omega) (by omega) (by omega) rfl (Nat.le_of_ble_eq_true rfl) dL_law_1211 ?_
  refine j_icmp_eq (tgt := 1649) B dL_law_1214 (by decide) (fun _ => ?_) (fun c => absurd rfl c)
  exact kk sv vi2 vl ns hW hI1 cs ss (by omega) (by omega)
theorem lwc_31 {G : GT} {Γ : CT} {MC MS cs ss b Ls ns : Nat} {xs : Nat → Int32} {sv : SV} {vi : VI} {vl : VL} {x3 : Int32} {INV : Nat → VI → VL → Prop} (B : Base G Γ mL 1300 MC MS) (A : LawAt G Γ b Ls xs) (hin1 : vp_in (x3 + 1) Ls) (hin2 : vp_in (x3 + 2) Ls) (hin3 : vp_in (x3 + 3) Ls) (hin4 : vp_in (x3 + 4) Ls) (hin5 : vp_in (x3 + 5) Ls) (hcs : cs + 25 ≤ MC) (hss : ss + 4060 ≤ MS) (hW : WF sv ns) (hI : INV ns vi vl) (hok : OK31 INV)
    (kk : ∀ (sv1 : SV) (vi1 : VI) (vl1 : VL) (ns1 : Nat), WF sv1 ns1 → INV ns1 vi1 vl1 → ∀ cs1 ss1 : Nat, cs1 ≤ cs + 25 → ss1 ≤ ss + 4060 → J G Γ cs1 ss1 1649 [(0, .ref b), (1, .ref (G.1 + 0)), (2, .ref (G.1 + 63)), (3, .int x3)] [] sv1 vi1 vl1) : J G Γ cs ss 1219 [(0, .ref b), (1, .ref (G.1 + 0)), (2, .ref (G.1 + 63)), (3, .int x3)] [] sv vi vl := by
  obtain ⟨r, vi1, hrx, vi2, hry, hI1⟩ := hok ns vi vl  hI
  refine j_aload_n B dL_law_1219 rfl 1 rfl ?_
  refine j_cVI (rest := []) B (tX9_back hW hrx) cls9 (wf_2 hW) jt_RL_143 wi_X9_back ws_X9_back rfl (by omega) (by omega) (by omega) rfl (Nat.le_of_ble_eq_true rfl) dL_law_1220 ?_
  refine j_aload_n B dL_law_1223 rfl 2 rfl ?_
  refine j_cVI (rest := [.int r]) B (tX10_back hW hry) cls10 (wf_65 hW) jt_RL_146 wi_X10_back ws_X10_back rfl (by omega) (by omega) (by omega) rfl (Nat.le_of_ble_eq_true rfl) dL_law_1224 ?_
  refine j_icmp_eq (tgt := 1649) B dL_law_1227 (by decide) (fun _ => ?_) (fun c => absurd rfl c)
  exact kk sv vi2 vl ns hW hI1 cs ss (by omega) (by omega)
theorem lwc_32 {G : GT} {Γ : CT} {MC MS cs ss b Ls ns : Nat} {xs : Nat → Int32} {sv : SV} {vi : VI} {vl : VL} {x3 : Int32} {INV : Nat → VI → VL → Prop} (B : Base G Γ mL 1300 MC MS) (A : LawAt G Γ b Ls xs) (hin1 : vp_in (x3 + 1) Ls) (hin2 : vp_in (x3 + 2) Ls) (hin3 : vp_in (x3 + 3) Ls) (hin4 : vp_in (x3 + 4) Ls) (hin5 : vp_in (x3 + 5) Ls) (hcs : cs + 25 ≤ MC) (hss : ss + 4060 ≤ MS) (hW : WF sv ns) (hI : INV ns vi vl) (hok : OK32 INV)
    (kk : ∀ (sv1 : SV) (vi1 : VI) (vl1 : VL) (ns1 : Nat), WF sv1 ns1 → INV ns1 vi1 vl1 → ∀ cs1 ss1 : Nat, cs1 ≤ cs + 25 → ss1 ≤ ss + 4060 → J G Γ cs1 ss1 1649 [(0, .ref b), (1, .ref (G.1 + 0)), (2, .ref (G.1 + 63)), (3, .int x3)] [] sv1 vi1 vl1) : J G Γ cs ss 1232 [(0, .ref b), (1, .ref (G.1 + 0)), (2, .ref (G.1 + 63)), (3, .int x3)] [] sv vi vl := by
  obtain ⟨r, vi1, hrx, vi2, hry, hI1⟩ := hok ns vi vl  hI
  refine j_aload_n B dL_law_1232 rfl 1 rfl ?_
  refine j_cVI (rest := []) B (tX9_undo hW hrx) cls9 (wf_2 hW) jt_RL_147 wi_X9_undo ws_X9_undo rfl (by omega) (by omega) (by omega) rfl (Nat.le_of_ble_eq_true rfl) dL_law_1233 ?_
  refine j_aload_n B dL_law_1236 rfl 2 rfl ?_
  refine j_cVI (rest := [.int r]) B (tX10_undo hW hry) cls10 (wf_65 hW) jt_RL_150 wi_X10_undo ws_X10_undo rfl (by omega) (by omega) (by omega) rfl (Nat.le_of_ble_eq_true rfl) dL_law_1237 ?_
  refine j_icmp_eq (tgt := 1649) B dL_law_1240 (by decide) (fun _ => ?_) (fun c => absurd rfl c)
  exact kk sv vi2 vl ns hW hI1 cs ss (by omega) (by omega)
theorem lwc_33 {G : GT} {Γ : CT} {MC MS cs ss b Ls ns : Nat} {xs : Nat → Int32} {sv : SV} {vi : VI} {vl : VL} {x3 : Int32} {INV : Nat → VI → VL → Prop} (B : Base G Γ mL 1300 MC MS) (A : LawAt G Γ b Ls xs) (hin1 : vp_in (x3 + 1) Ls) (hin2 : vp_in (x3 + 2) Ls) (hin3 : vp_in (x3 + 3) Ls) (hin4 : vp_in (x3 + 4) Ls) (hin5 : vp_in (x3 + 5) Ls) (hcs : cs + 25 ≤ MC) (hss : ss + 4060 ≤ MS) (hW : WF sv ns) (hI : INV ns vi vl) (hok : OK33 INV)
    (kk : ∀ (sv1 : SV) (vi1 : VI) (vl1 : VL) (ns1 : Nat), WF sv1 ns1 → INV ns1 vi1 vl1 → ∀ cs1 ss1 : Nat, cs1 ≤ cs + 25 → ss1 ≤ ss + 4060 → J G Γ cs1 ss1 1649 [(0, .ref b), (1, .ref (G.1 + 0)), (2, .ref (G.1 + 63)), (3, .int x3)] [] sv1 vi1 vl1) : J G Γ cs ss 1245 [(0, .ref b), (1, .ref (G.1 + 0)), (2, .ref (G.1 + 63)), (3, .int x3)] [] sv vi vl := by
  obtain ⟨r, vi1, hrx, vi2, hry, hI1⟩ := hok ns vi vl  hI
  refine j_aload_n B dL_law_1245 rfl 1 rfl ?_
  refine j_cVI (rest := []) B (tX9_redo hW hrx) cls9 (wf_2 hW) jt_RL_151 wi_X9_redo ws_X9_redo rfl (by omega) (by omega) (by omega) rfl (Nat.le_of_ble_eq_true rfl) dL_law_1246 ?_
  refine j_aload_n B dL_law_1249 rfl 2 rfl ?_
  refine j_cVI (rest := [.int r]) B (tX10_redo hW hry) cls10 (wf_65 hW) jt_RL_154 wi_X10_redo ws_X10_redo rfl (by omega) (by omega) (by omega) rfl (Nat.le_of_ble_eq_true rfl) dL_law_1250 ?_
  refine j_icmp_eq (tgt := 1649) B dL_law_1253 (by decide) (fun _ => ?_) (fun c => absurd rfl c)
  exact kk sv vi2 vl ns hW hI1 cs ss (by omega) (by omega)
theorem lwc_34 {G : GT} {Γ : CT} {MC MS cs ss b Ls ns : Nat} {xs : Nat → Int32} {sv : SV} {vi : VI} {vl : VL} {x3 : Int32} {INV : Nat → VI → VL → Prop} (B : Base G Γ mL 1300 MC MS) (A : LawAt G Γ b Ls xs) (hin1 : vp_in (x3 + 1) Ls) (hin2 : vp_in (x3 + 2) Ls) (hin3 : vp_in (x3 + 3) Ls) (hin4 : vp_in (x3 + 4) Ls) (hin5 : vp_in (x3 + 5) Ls) (hcs : cs + 25 ≤ MC) (hss : ss + 4060 ≤ MS) (hW : WF sv ns) (hI : INV ns vi vl) (hok : OK34 INV)
    (kk : ∀ (sv1 : SV) (vi1 : VI) (vl1 : VL) (ns1 : Nat), WF sv1 ns1 → INV ns1 vi1 vl1 → ∀ cs1 ss1 : Nat, cs1 ≤ cs + 25 → ss1 ≤ ss + 4060 → J G Γ cs1 ss1 1649 [(0, .ref b), (1, .ref (G.1 + 0)), (2, .ref (G.1 + 63)), (3, .int x3)] [] sv1 vi1 vl1) : J G Γ cs ss 1258 [(0, .ref b), (1, .ref (G.1 + 0)), (2, .ref (G.1 + 63)), (3, .int x3)] [] sv vi vl := by
  obtain ⟨r, vi1, hrx, vi2, hry, hI1⟩ := hok ns vi vl (xs (x3 + 1).toNatClampNeg) hI
  refine j_aload_n B dL_law_1258 rfl 1 rfl ?_
  refine j_aload_n B dL_law_1259 rfl 0 rfl ?_
  refine j_iload_n B dL_law_1260 rfl 3 rfl ?_
  refine j_iconst B dL_law_1261 (v := 1) (by decide) ?_
  refine j_iadd B dL_law_1262 ?_
  refine j_sld B A hin1 dL_law_1263 ?_
  refine j_cVI (rest := []) B (tX9_body hW hrx) cls9 (wf_2 hW) jt_RL_155 wi_X9_body ws_X9_body rfl (by omega) (by omega) (by omega) rfl (Nat.le_of_ble_eq_true rfl) dL_law_1264 ?_
  refine j_aload_n B dL_law_1267 rfl 2 rfl ?_
  refine j_aload_n B dL_law_1268 rfl 0 rfl ?_
  refine j_iload_n B dL_law_1269 rfl 3 rfl ?_
  refine j_iconst B dL_law_1270 (v := 1) (by decide) ?_
  refine j_iadd B dL_law_1271 ?_
  refine j_sld B A hin1 dL_law_1272 ?_
  refine j_cVI (rest := [.int r]) B (tX10_body hW hry) cls10 (wf_65 hW) jt_RL_158 wi_X10_body ws_X10_body rfl (by omega) (by omega) (by omega) rfl (Nat.le_of_ble_eq_true rfl) dL_law_1273 ?_
  refine j_icmp_eq (tgt := 1649) B dL_law_1276 (by decide) (fun _ => ?_) (fun c => absurd rfl c)
  exact kk sv vi2 vl ns hW hI1 cs ss (by omega) (by omega)
theorem lwc_35 {G : GT} {Γ : CT} {MC MS cs ss b Ls ns : Nat} {xs : Nat → Int32} {sv : SV} {vi : VI} {vl : VL} {x3 : Int32} {INV : Nat → VI → VL → Prop} (B : Base G Γ mL 1300 MC MS) (A : LawAt G Γ b Ls xs) (hin1 : vp_in (x3 + 1) Ls) (hin2 : vp_in (x3 + 2) Ls) (hin3 : vp_in (x3 + 3) Ls) (hin4 : vp_in (x3 + 4) Ls) (hin5 : vp_in (x3 + 5) Ls) (hcs : cs + 25 ≤ MC) (hss : ss + 4060 ≤ MS) (hW : WF sv ns) (hI : INV ns vi vl) (hok : OK35 INV)
    (kk : ∀ (sv1 : SV) (vi1 : VI) (vl1 : VL) (ns1 : Nat), WF sv1 ns1 → INV ns1 vi1 vl1 → ∀ cs1 ss1 : Nat, cs1 ≤ cs + 25 → ss1 ≤ ss + 4060 → J G Γ cs1 ss1 1649 [(0, .ref b), (1, .ref (G.1 + 0)), (2, .ref (G.1 + 63)), (3, .int x3)] [] sv1 vi1 vl1) : J G Γ cs ss 1281 [(0, .ref b), (1, .ref (G.1 + 0)), (2, .ref (G.1 + 63)), (3, .int x3)] [] sv vi vl := by
  obtain ⟨r, vi1, hrx, vi2, hry, hI1⟩ := hok ns vi vl (xs (x3 + 1).toNatClampNeg) (xs (x3 + 2).toNatClampNeg) (xs (x3 + 3).toNatClampNeg) hI
  refine j_aload_n B dL_law_1281 rfl 1 rfl ?_
  refine j_aload_n B dL_law_1282 rfl 0 rfl ?_
  refine j_iload_n B dL_law_1283 rfl 3 rfl ?_
  refine j_iconst B dL_law_1284 (v := 1) (by decide) ?_
  refine j_iadd B dL_law_1285 ?_
  refine j_sld B A hin1 dL_law_1286 ?_
  refine j_aload_n B dL_law_1287 rfl 0 rfl ?_
  refine j_iload_n B dL_law_1288 rfl 3 rfl ?_
  refine j_iconst B dL_law_1289 (v := 2) (by decide) ?_
  refine j_iadd B dL_law_1290 ?_
  refine j_sld B A hin2 dL_law_1291 ?_
  refine j_aload_n B dL_law_1292 rfl 0 rfl ?_
  refine j_iload_n B dL_law_1293 rfl 3 rfl ?_
  refine j_iconst B dL_law_1294 (v := 3) (by decide) ?_
  refine j_iadd B dL_law_1295 ?_
  refine j_sld B A hin3 dL_law_1296 ?_
  refine j_cVI (rest := []) B (tX9_act hW hrx) cls9 (wf_2 hW) jt_RL_159 wi_X9_act ws_X9_act rfl (by omega) (by omega) (by omega) rfl (Nat.le_of_ble_eq_true rfl) dL_law_1297 ?_
  refine j_aload_n B dL_law_1300 rfl 2 rfl ?_
  refine j_aload_n B dL_law_1301 rfl 0 rfl ?_
  refine j_iload_n B dL_law_1302 rfl 3 rfl ?_
  refine j_iconst B dL_law_1303 (v := 1) (by decide) ?_
  refine j_iadd B dL_law_1304 ?_
  refine j_sld B A hin1 dL_law_1305 ?_
  refine j_aload_n B dL_law_1306 rfl 0 rfl ?_
  refine j_iload_n B dL_law_1307 rfl 3 rfl ?_
  refine j_iconst B dL_law_1308 (v := 2) (by decide) ?_
  refine j_iadd B dL_law_1309 ?_
  refine j_sld B A hin2 dL_law_1310 ?_
  refine j_aload_n B dL_law_1311 rfl 0 rfl ?_
  refine j_iload_n B dL_law_1312 rfl 3 rfl ?_
  refine j_iconst B dL_law_1313 (v := 3) (by decide) ?_
  refine j_iadd B dL_law_1314 ?_
  refine j_sld B A hin3 dL_law_1315 ?_
  refine j_cVI (rest := [.int r]) B (tX10_act hW hry) cls10 (wf_65 hW) jt_RL_162 wi_X10_act ws_X10_act rfl (by omega) (by omega) (by omega) rfl (Nat.le_of_ble_eq_true rfl) dL_law_1316 ?_
  refine j_icmp_eq (tgt := 1649) B dL_law_1319 (by decide) (fun _ => ?_) (fun c => absurd rfl c)
  exact kk sv vi2 vl ns hW hI1 cs ss (by omega) (by omega)
theorem lwc_36 {G : GT} {Γ : CT} {MC MS cs ss b Ls ns : Nat} {xs : Nat → Int32} {sv : SV} {vi : VI} {vl : VL} {x3 : Int32} {INV : Nat → VI → VL → Prop} (B : Base G Γ mL 1300 MC MS) (A : LawAt G Γ b Ls xs) (hin1 : vp_in (x3 + 1) Ls) (hin2 : vp_in (x3 + 2) Ls) (hin3 : vp_in (x3 + 3) Ls) (hin4 : vp_in (x3 + 4) Ls) (hin5 : vp_in (x3 + 5) Ls) (hcs : cs + 25 ≤ MC) (hss : ss + 4060 ≤ MS) (hW : WF sv ns) (hI : INV ns vi vl) (hok : OK36 INV)
    (kk : ∀ (sv1 : SV) (vi1 : VI) (vl1 : VL) (ns1 : Nat), WF sv1 ns1 → INV ns1 vi1 vl1 → ∀ cs1 ss1 : Nat, cs1 ≤ cs + 25 → ss1 ≤ ss + 4060 → J G Γ cs1 ss1 1649 [(0, .ref b), (1, .ref (G.1 + 0)), (2, .ref (G.1 + 63)), (3, .int x3)] [] sv1 vi1 vl1) : J G Γ cs ss 1324 [(0, .ref b), (1, .ref (G.1 + 0)), (2, .ref (G.1 + 63)), (3, .int x3)] [] sv vi vl := by
  obtain ⟨r, hrx, hry, hI1⟩ := hok ns vi vl (xs (x3 + 1).toNatClampNeg) hI
  refine j_aload_n B dL_law_1324 rfl 1 rfl ?_
  refine j_aload_n B dL_law_1325 rfl 0 rfl ?_
  refine j_iload_n B dL_law_1326 rfl 3 rfl ?_
  refine j_iconst B dL_law_1327 (v := 1) (by decide) ?_
  refine j_iadd B dL_law_1328 ?_
  refine j_sld B A hin1 dL_law_1329 ?_
  refine j_cVI (rest := []) B (tX9_trace hW hrx) cls9 (wf_2 hW) jt_RL_163 wi_X9_trace ws_X9_trace rfl (by omega) (by omega) (by omega) rfl (Nat.le_of_ble_eq_true rfl) dL_law_1330 ?_
  refine j_aload_n B dL_law_1333 rfl 2 rfl ?_
  refine j_aload_n B dL_law_1334 rfl 0 rfl ?_
  refine j_iload_n B dL_law_1335 rfl 3 rfl ?_
  refine j_iconst B dL_law_1336 (v := 1) (by decide) ?_
  refine j_iadd B dL_law_1337 ?_
  refine j_sld B A hin1 dL_law_1338 ?_
  refine j_cVI (rest := [.int r]) B (tX10_trace hW hry) cls10 (wf_65 hW) jt_RL_166 wi_X10_trace ws_X10_trace rfl (by omega) (by omega) (by omega) rfl (Nat.le_of_ble_eq_true rfl) dL_law_1339 ?_
  refine j_icmp_eq (tgt := 1649) B dL_law_1342 (by decide) (fun _ => ?_) (fun c => absurd rfl c)
  exact kk sv vi vl ns hW hI1 cs ss (by omega) (by omega)
theorem lwc_37 {G : GT} {Γ : CT} {MC MS cs ss b Ls ns : Nat} {xs : Nat → Int32} {sv : SV} {vi : VI} {vl : VL} {x3 : Int32} {INV : Nat → VI → VL → Prop} (B : Base G Γ mL 1300 MC MS) (A : LawAt G Γ b Ls xs) (hin1 : vp_in (x3 + 1) Ls) (hin2 : vp_in (x3 + 2) Ls) (hin3 : vp_in (x3 + 3) Ls) (hin4 : vp_in (x3 + 4) Ls) (hin5 : vp_in (x3 + 5) Ls) (hcs : cs + 25 ≤ MC) (hss : ss + 4060 ≤ MS) (hW : WF sv ns) (hI : INV ns vi vl) (hok : OK37 INV)
    (kk : ∀ (sv1 : SV) (vi1 : VI) (vl1 : VL) (ns1 : Nat), WF sv1 ns1 → INV ns1 vi1 vl1 → ∀ cs1 ss1 : Nat, cs1 ≤ cs + 25 → ss1 ≤ ss + 4060 → J G Γ cs1 ss1 1649 [(0, .ref b), (1, .ref (G.1 + 0)), (2, .ref (G.1 + 63)), (3, .int x3)] [] sv1 vi1 vl1) : J G Γ cs ss 1347 [(0, .ref b), (1, .ref (G.1 + 0)), (2, .ref (G.1 + 63)), (3, .int x3)] [] sv vi vl := by
  obtain ⟨r, vi1, hrx, vi2, hry, hI1⟩ := hok ns vi vl (xs (x3 + 1).toNatClampNeg) (xs (x3 + 2).toNatClampNeg) hI
  refine j_aload_n B dL_law_1347 rfl 1 rfl ?_
  refine j_aload_n B dL_law_1348 rfl 0 rfl ?_
  refine j_iload_n B dL_law_1349 rfl 3 rfl ?_
  refine j_iconst B dL_law_1350 (v := 1) (by decide) ?_
  refine j_iadd B dL_law_1351 ?_
  refine j_sld B A hin1 dL_law_1352 ?_
  refine j_aload_n B dL_law_1353 rfl 0 rfl ?_
  refine j_iload_n B dL_law_1354 rfl 3 rfl ?_
  refine j_iconst B dL_law_1355 (v := 2) (by decide) ?_
  refine j_iadd B dL_law_1356 ?_
  refine j_sld B A hin2 dL_law_1357 ?_
  refine j_cVI (rest := []) B (tX9_keep hW hrx) cls9 (wf_2 hW) jt_RL_167 wi_X9_keep ws_X9_keep rfl (by omega) (by omega) (by omega) rfl (Nat.le_of_ble_eq_true rfl) dL_law_1358 ?_
  refine j_aload_n B dL_law_1361 rfl 2 rfl ?_
  refine j_aload_n B dL_law_1362 rfl 0 rfl ?_
  refine j_iload_n B dL_law_1363 rfl 3 rfl ?_
  refine j_iconst B dL_law_1364 (v := 1) (by decide) ?_
  refine j_iadd B dL_law_1365 ?_
  refine j_sld B A hin1 dL_law_1366 ?_
  refine j_aload_n B dL_law_1367 rfl 0 rfl ?_
  refine j_iload_n B dL_law_1368 rfl 3 rfl ?_
  refine j_iconst B dL_law_1369 (v := 2) (by decide) ?_
  refine j_iadd B dL_law_1370 ?_
  refine j_sld B A hin2 dL_law_1371 ?_
  refine j_cVI (rest := [.int r]) B (tX10_keep hW hry) cls10 (wf_65 hW) jt_RL_170 wi_X10_keep ws_X10_keep rfl (by omega) (by omega) (by omega) rfl (Nat.le_of_ble_eq_true rfl) dL_law_1372 ?_
  refine j_icmp_eq (tgt := 1649) B dL_law_1375 (by decide) (fun _ => ?_) (fun c => absurd rfl c)
  exact kk sv vi2 vl ns hW hI1 cs ss (by omega) (by omega)
theorem lwc_38 {G : GT} {Γ : CT} {MC MS cs ss b Ls ns : Nat} {xs : Nat → Int32} {sv : SV} {vi : VI} {vl : VL} {x3 : Int32} {INV : Nat → VI → VL → Prop} (B : Base G Γ mL 1300 MC MS) (A : LawAt G Γ b Ls xs) (hin1 : vp_in (x3 + 1) Ls) (hin2 : vp_in (x3 + 2) Ls) (hin3 : vp_in (x3 + 3) Ls) (hin4 : vp_in (x3 + 4) Ls) (hin5 : vp_in (x3 + 5) Ls) (hcs : cs + 25 ≤ MC) (hss : ss + 4060 ≤ MS) (hW : WF sv ns) (hI : INV ns vi vl) (hok : OK38 INV)
    (kk : ∀ (sv1 : SV) (vi1 : VI) (vl1 : VL) (ns1 : Nat), WF sv1 ns1 → INV ns1 vi1 vl1 → ∀ cs1 ss1 : Nat, cs1 ≤ cs + 25 → ss1 ≤ ss + 4060 → J G Γ cs1 ss1 1649 [(0, .ref b), (1, .ref (G.1 + 0)), (2, .ref (G.1 + 63)), (3, .int x3)] [] sv1 vi1 vl1) : J G Γ cs ss 1380 [(0, .ref b), (1, .ref (G.1 + 0)), (2, .ref (G.1 + 63)), (3, .int x3)] [] sv vi vl := by
  obtain ⟨r, vi1, vl1, hrx, vi2, vl2, hry, hI1⟩ := hok ns vi vl (xs (x3 + 1).toNatClampNeg) (xs (x3 + 2).toNatClampNeg) (xs (x3 + 3).toNatClampNeg) hI
  refine j_aload_n B dL_law_1380 rfl 1 rfl ?_
  refine j_aload_n B dL_law_1381 rfl 0 rfl ?_
  refine j_iload_n B dL_law_1382 rfl 3 rfl ?_
  refine j_iconst B dL_law_1383 (v := 1) (by decide) ?_
  refine j_iadd B dL_law_1384 ?_
  refine j_sld B A hin1 dL_law_1385 ?_
  refine j_aload_n B dL_law_1386 rfl 0 rfl ?_
  refine j_iload_n B dL_law_1387 rfl 3 rfl ?_
  refine j_iconst B dL_law_1388 (v := 2) (by decide) ?_
  refine j_iadd B dL_law_1389 ?_
  refine j_sld B A hin2 dL_law_1390 ?_
  refine j_aload_n B dL_law_1391 rfl 0 rfl ?_
  refine j_iload_n B dL_law_1392 rfl 3 rfl ?_
  refine j_iconst B dL_law_1393 (v := 3) (by decide) ?_
  refine j_iadd B dL_law_1394 ?_
  refine j_sld B A hin3 dL_law_1395 ?_
  refine j_cVI (rest := []) B (tX9_row hW hrx) cls9 (wf_2 hW) jt_RL_171 wi_X9_row ws_X9_row rfl (by omega) (by omega) (by omega) rfl (Nat.le_of_ble_eq_true rfl) dL_law_1396 ?_
  refine j_aload_n B dL_law_1399 rfl 2 rfl ?_
  refine j_aload_n B dL_law_1400 rfl 0 rfl ?_
  refine j_iload_n B dL_law_1401 rfl 3 rfl ?_
  refine j_iconst B dL_law_1402 (v := 1) (by decide) ?_
  refine j_iadd B dL_law_1403 ?_
  refine j_sld B A hin1 dL_law_1404 ?_
  refine j_aload_n B dL_law_1405 rfl 0 rfl ?_
  refine j_iload_n B dL_law_1406 rfl 3 rfl ?_
  refine j_iconst B dL_law_1407 (v := 2) (by decide) ?_
  refine j_iadd B dL_law_1408 ?_
  refine j_sld B A hin2 dL_law_1409 ?_
  refine j_aload_n B dL_law_1410 rfl 0 rfl ?_
  refine j_iload_n B dL_law_1411 rfl 3 rfl ?_
  refine j_iconst B dL_law_1412 (v := 3) (by decide) ?_
  refine j_iadd B dL_law_1413 ?_
  refine j_sld B A hin3 dL_law_1414 ?_
  refine j_cVI (rest := [.int r]) B (tX10_row hW hry) cls10 (wf_65 hW) jt_RL_174 wi_X10_row ws_X10_row rfl (by omega) (by omega) (by omega) rfl (Nat.le_of_ble_eq_true rfl) dL_law_1415 ?_
  refine j_icmp_eq (tgt := 1649) B dL_law_1418 (by decide) (fun _ => ?_) (fun c => absurd rfl c)
  exact kk sv vi2 vl2 ns hW hI1 cs ss (by omega) (by omega)
theorem lwc_39 {G : GT} {Γ : CT} {MC MS cs ss b Ls ns : Nat} {xs : Nat → Int32} {sv : SV} {vi : VI} {vl : VL} {x3 : Int32} {INV : Nat → VI → VL → Prop} (B : Base G Γ mL 1300 MC MS) (A : LawAt G Γ b Ls xs) (hin1 : vp_in (x3 + 1) Ls) (hin2 : vp_in (x3 + 2) Ls) (hin3 : vp_in (x3 + 3) Ls) (hin4 : vp_in (x3 + 4) Ls) (hin5 : vp_in (x3 + 5) Ls) (hcs : cs + 25 ≤ MC) (hss : ss + 4060 ≤ MS) (hW : WF sv ns) (hI : INV ns vi vl) (hok : OK39 INV)
    (kk : ∀ (sv1 : SV) (vi1 : VI) (vl1 : VL) (ns1 : Nat), WF sv1 ns1 → INV ns1 vi1 vl1 → ∀ cs1 ss1 : Nat, cs1 ≤ cs + 25 → ss1 ≤ ss + 4060 → J G Γ cs1 ss1 1649 [(0, .ref b), (1, .ref (G.1 + 0)), (2, .ref (G.1 + 63)), (3, .int x3)] [] sv1 vi1 vl1) : J G Γ cs ss 1423 [(0, .ref b), (1, .ref (G.1 + 0)), (2, .ref (G.1 + 63)), (3, .int x3)] [] sv vi vl := by
  obtain ⟨r, vl1, hrx, vl2, hry, hI1⟩ := hok ns vi vl (xs (x3 + 1).toNatClampNeg) (xs (x3 + 2).toNatClampNeg) (((xs (x3 + 3).toNatClampNeg).toInt64 <<< ((32 : Int32).toInt64 &&& 63)) ||| ((xs (x3 + 4).toNatClampNeg).toInt64 &&& 4294967295)) hI
  refine j_aload_n B dL_law_1423 rfl 1 rfl ?_
  refine j_aload_n B dL_law_1424 rfl 0 rfl ?_
  refine j_iload_n B dL_law_1425 rfl 3 rfl ?_
  refine j_iconst B dL_law_1426 (v := 1) (by decide) ?_
  refine j_iadd B dL_law_1427 ?_
  refine j_sld B A hin1 dL_law_1428 ?_
  refine j_aload_n B dL_law_1429 rfl 0 rfl ?_
  refine j_iload_n B dL_law_1430 rfl 3 rfl ?_
  refine j_iconst B dL_law_1431 (v := 2) (by decide) ?_
  refine j_iadd B dL_law_1432 ?_
  refine j_sld B A hin2 dL_law_1433 ?_
  refine j_aload_n B dL_law_1434 rfl 0 rfl ?_
  refine j_iload_n B dL_law_1435 rfl 3 rfl ?_
  refine j_iconst B dL_law_1436 (v := 3) (by decide) ?_
  refine j_iadd B dL_law_1437 ?_
  refine j_sld B A hin3 dL_law_1438 ?_
  refine j_i2l B dL_law_1439 ?_
  refine j_bipush B dL_law_1440 (v := 32) (by decide) ?_
  refine j_lshl B dL_law_1442 ?_
  refine j_aload_n B dL_law_1443 rfl 0 rfl ?_
  refine j_iload_n B dL_law_1444 rfl 3 rfl ?_
  refine j_iconst B dL_law_1445 (v := 4) (by decide) ?_
  refine j_iadd B dL_law_1446 ?_
  refine j_sld B A hin4 dL_law_1447 ?_
  refine j_i2l B dL_law_1448 ?_
  refine j_ldc2 B wk_RL_175 dL_law_1449 ?_
  refine j_land B dL_law_1452 ?_
  refine j_lor B dL_law_1453 ?_
  refine j_cVI (rest := []) B (tX9_put hW hrx) cls9 (wf_2 hW) jt_RL_177 wi_X9_put ws_X9_put rfl (by omega) (by omega) (by omega) rfl (Nat.le_of_ble_eq_true rfl) dL_law_1454 ?_
  refine j_aload_n B dL_law_1457 rfl 2 rfl ?_
  refine j_aload_n B dL_law_1458 rfl 0 rfl ?_
  refine j_iload_n B dL_law_1459 rfl 3 rfl ?_
  refine j_iconst B dL_law_1460 (v := 1) (by decide) ?_
  refine j_iadd B dL_law_1461 ?_
  refine j_sld B A hin1 dL_law_1462 ?_
  refine j_aload_n B dL_law_1463 rfl 0 rfl ?_
  refine j_iload_n B dL_law_1464 rfl 3 rfl ?_
  refine j_iconst B dL_law_1465 (v := 2) (by decide) ?_
  refine j_iadd B dL_law_1466 ?_
  refine j_sld B A hin2 dL_law_1467 ?_
  refine j_aload_n B dL_law_1468 rfl 0 rfl ?_
  refine j_iload_n B dL_law_1469 rfl 3 rfl ?_
  refine j_iconst B dL_law_1470 (v := 3) (by decide) ?_
  refine j_iadd B dL_law_1471 ?_
  refine j_sld B A hin3 dL_law_1472 ?_
  refine j_i2l B dL_law_1473 ?_
  refine j_bipush B dL_law_1474 (v := 32) (by decide) ?_
  refine j_lshl B dL_law_1476 ?_
  refine j_aload_n B dL_law_1477 rfl 0 rfl ?_
  refine j_iload_n B dL_law_1478 rfl 3 rfl ?_
  refine j_iconst B dL_law_1479 (v := 4) (by decide) ?_
  refine j_iadd B dL_law_1480 ?_
  refine j_sld B A hin4 dL_law_1481 ?_
  refine j_i2l B dL_law_1482 ?_
  refine j_ldc2 B wk_RL_175 dL_law_1483 ?_
  refine j_land B dL_law_1486 ?_
  refine j_lor B dL_law_1487 ?_
  refine j_cVI (rest := [.int r]) B (tX10_put hW hry) cls10 (wf_65 hW) jt_RL_181 wi_X10_put ws_X10_put rfl (by omega) (by omega) (by omega) rfl (Nat.le_of_ble_eq_true rfl) dL_law_1488 ?_
  refine j_icmp_eq (tgt := 1649) B dL_law_1491 (by decide) (fun _ => ?_) (fun c => absurd rfl c)
  exact kk sv vi vl2 ns hW hI1 cs ss (by omega) (by omega)
theorem lwc_40 {G : GT} {Γ : CT} {MC MS cs ss b Ls ns : Nat} {xs : Nat → Int32} {sv : SV} {vi : VI} {vl : VL} {x3 : Int32} {INV : Nat → VI → VL → Prop} (B : Base G Γ mL 1300 MC MS) (A : LawAt G Γ b Ls xs) (hin1 : vp_in (x3 + 1) Ls) (hin2 : vp_in (x3 + 2) Ls) (hin3 : vp_in (x3 + 3) Ls) (hin4 : vp_in (x3 + 4) Ls) (hin5 : vp_in (x3 + 5) Ls) (hcs : cs + 25 ≤ MC) (hss : ss + 4060 ≤ MS) (hW : WF sv ns) (hI : INV ns vi vl) (hok : OK40 INV)
    (kk : ∀ (sv1 : SV) (vi1 : VI) (vl1 : VL) (ns1 : Nat), WF sv1 ns1 → INV ns1 vi1 vl1 → ∀ cs1 ss1 : Nat, cs1 ≤ cs + 25 → ss1 ≤ ss + 4060 → J G Γ cs1 ss1 1649 [(0, .ref b), (1, .ref (G.1 + 0)), (2, .ref (G.1 + 63)), (3, .int x3)] [] sv1 vi1 vl1) : J G Γ cs ss 1496 [(0, .ref b), (1, .ref (G.1 + 0)), (2, .ref (G.1 + 63)), (3, .int x3)] [] sv vi vl := by
  obtain ⟨r, hrx, hry, hI1⟩ := hok ns vi vl (xs (x3 + 1).toNatClampNeg) (xs (x3 + 2).toNatClampNeg) hI
  refine j_aload_n B dL_law_1496 rfl 1 rfl ?_
  refine j_aload_n B dL_law_1497 rfl 0 rfl ?_
  refine j_iload_n B dL_law_1498 rfl 3 rfl ?_
  refine j_iconst B dL_law_1499 (v := 1) (by decide) ?_
  refine j_iadd B dL_law_1500 ?_
  refine j_sld B A hin1 dL_law_1501 ?_
  refine j_aload_n B dL_law_1502 rfl 0 rfl ?_
  refine j_iload_n B dL_law_1503 rfl 3 rfl ?_
  refine j_iconst B dL_law_1504 (v := 2) (by decide) ?_
  refine j_iadd B dL_law_1505 ?_
  refine j_sld B A hin2 dL_law_1506 ?_
  refine j_cVJ (rest := []) B (tX9_element hW hrx) cls9 (wf_2 hW) jt_RL_182 wi_X9_element ws_X9_element rfl (by omega) (by omega) (by omega) rfl (Nat.le_of_ble_eq_true rfl) dL_law_1507 ?_
  refine j_aload_n B dL_law_1510 rfl 2 rfl ?_
  refine j_aload_n B dL_law_1511 rfl 0 rfl ?_
  refine j_iload_n B dL_law_1512 rfl 3 rfl ?_
  refine j_iconst B dL_law_1513 (v := 1) (by decide) ?_
  refine j_iadd B dL_law_1514 ?_
  refine j_sld B A hin1 dL_law_1515 ?_
  refine j_aload_n B dL_law_1516 rfl 0 rfl ?_
  refine j_iload_n B dL_law_1517 rfl 3 rfl ?_
  refine j_iconst B dL_law_1518 (v := 2) (by decide) ?_
  refine j_iadd B dL_law_1519 ?_
  refine j_sld B A hin2 dL_law_1520 ?_
  refine j_cVJ (rest := [.long r]) B (tX10_element hW hry) cls10 (wf_65 hW) jt_RL_185 wi_X10_element ws_X10_element rfl (by omega) (by omega) (by omega) rfl (Nat.le_of_ble_eq_true rfl) dL_law_1521 ?_
  refine j_lcmp B dL_law_1524 ?_
  refine j_if_eq (tgt := 1649) B dL_law_1525 (by decide) (fun _ => ?_) (fun c => absurd (lg_self r) c)
  exact kk sv vi vl ns hW hI1 cs ss (by omega) (by omega)
theorem lwc_41 {G : GT} {Γ : CT} {MC MS cs ss b Ls ns : Nat} {xs : Nat → Int32} {sv : SV} {vi : VI} {vl : VL} {x3 : Int32} {INV : Nat → VI → VL → Prop} (B : Base G Γ mL 1300 MC MS) (A : LawAt G Γ b Ls xs) (hin1 : vp_in (x3 + 1) Ls) (hin2 : vp_in (x3 + 2) Ls) (hin3 : vp_in (x3 + 3) Ls) (hin4 : vp_in (x3 + 4) Ls) (hin5 : vp_in (x3 + 5) Ls) (hcs : cs + 25 ≤ MC) (hss : ss + 4060 ≤ MS) (hW : WF sv ns) (hI : INV ns vi vl) (hok : OK41 INV)
    (kk : ∀ (sv1 : SV) (vi1 : VI) (vl1 : VL) (ns1 : Nat), WF sv1 ns1 → INV ns1 vi1 vl1 → ∀ cs1 ss1 : Nat, cs1 ≤ cs + 25 → ss1 ≤ ss + 4060 → J G Γ cs1 ss1 1649 [(0, .ref b), (1, .ref (G.1 + 0)), (2, .ref (G.1 + 63)), (3, .int x3)] [] sv1 vi1 vl1) : J G Γ cs ss 1530 [(0, .ref b), (1, .ref (G.1 + 0)), (2, .ref (G.1 + 63)), (3, .int x3)] [] sv vi vl := by
  obtain ⟨r, vl1, hrx, vl2, hry, hI1⟩ := hok ns vi vl (xs (x3 + 1).toNatClampNeg) (xs (x3 + 2).toNatClampNeg) (xs (x3 + 3).toNatClampNeg) (xs (x3 + 4).toNatClampNeg) (xs (x3 + 5).toNatClampNeg) hI
  refine j_aload_n B dL_law_1530 rfl 1 rfl ?_
  refine j_aload_n B dL_law_1531 rfl 0 rfl ?_
  refine j_iload_n B dL_law_1532 rfl 3 rfl ?_
  refine j_iconst B dL_law_1533 (v := 1) (by decide) ?_
  refine j_iadd B dL_law_1534 ?_
  refine j_sld B A hin1 dL_law_1535 ?_
  refine j_aload_n B dL_law_1536 rfl 0 rfl ?_
  refine j_iload_n B dL_law_1537 rfl 3 rfl ?_
  refine j_iconst B dL_law_1538 (v := 2) (by decide) ?_
  refine j_iadd B dL_law_1539 ?_
  refine j_sld B A hin2 dL_law_1540 ?_
  refine j_aload_n B dL_law_1541 rfl 0 rfl ?_
  refine j_iload_n B dL_law_1542 rfl 3 rfl ?_
  refine j_iconst B dL_law_1543 (v := 3) (by decide) ?_
  refine j_iadd B dL_law_1544 ?_
  refine j_sld B A hin3 dL_law_1545 ?_
  refine j_aload_n B dL_law_1546 rfl 0 rfl ?_
  refine j_iload_n B dL_law_1547 rfl 3 rfl ?_
  refine j_iconst B dL_law_1548 (v := 4) (by decide) ?_
  refine j_iadd B dL_law_1549 ?_
  refine j_sld B A hin4 dL_law_1550 ?_
  refine j_aload_n B dL_law_1551 rfl 0 rfl ?_
  refine j_iload_n B dL_law_1552 rfl 3 rfl ?_
  refine j_iconst B dL_law_1553 (v := 5) (by decide) ?_
  refine j_iadd B dL_law_1554 ?_
  refine j_sld B A hin5 dL_law_1555 ?_
  refine j_cVI (rest := []) B (tX9_shift hW hrx) cls9 (wf_2 hW) jt_RL_186 wi_X9_shift ws_X9_shift rfl (by omega) (by omega) (by omega) rfl (Nat.le_of_ble_eq_true rfl) dL_law_1556 ?_
  refine j_aload_n B dL_law_1559 rfl 2 rfl ?_
  refine j_aload_n B dL_law_1560 rfl 0 rfl ?_
  refine j_iload_n B dL_law_1561 rfl 3 rfl ?_
  refine j_iconst B dL_law_1562 (v := 1) (by decide) ?_
  refine j_iadd B dL_law_1563 ?_
  refine j_sld B A hin1 dL_law_1564 ?_
  refine j_aload_n B dL_law_1565 rfl 0 rfl ?_
  refine j_iload_n B dL_law_1566 rfl 3 rfl ?_
  refine j_iconst B dL_law_1567 (v := 2) (by decide) ?_
  refine j_iadd B dL_law_1568 ?_
  refine j_sld B A hin2 dL_law_1569 ?_
  refine j_aload_n B dL_law_1570 rfl 0 rfl ?_
  refine j_iload_n B dL_law_1571 rfl 3 rfl ?_
  refine j_iconst B dL_law_1572 (v := 3) (by decide) ?_
  refine j_iadd B dL_law_1573 ?_
  refine j_sld B A hin3 dL_law_1574 ?_
  refine j_aload_n B dL_law_1575 rfl 0 rfl ?_
  refine j_iload_n B dL_law_1576 rfl 3 rfl ?_
  refine j_iconst B dL_law_1577 (v := 4) (by decide) ?_
  refine j_iadd B dL_law_1578 ?_
  refine j_sld B A hin4 dL_law_1579 ?_
  refine j_aload_n B dL_law_1580 rfl 0 rfl ?_
  refine j_iload_n B dL_law_1581 rfl 3 rfl ?_
  refine j_iconst B dL_law_1582 (v := 5) (by decide) ?_
  refine j_iadd B dL_law_1583 ?_
  refine j_sld B A hin5 dL_law_1584 ?_
  refine j_cVI (rest := [.int r]) B (tX10_shift hW hry) cls10 (wf_65 hW) jt_RL_190 wi_X10_shift ws_X10_shift rfl (by omega) (by omega) (by omega) rfl (Nat.le_of_ble_eq_true rfl) dL_law_1585 ?_
  refine j_icmp_eq (tgt := 1649) B dL_law_1588 (by decide) (fun _ => ?_) (fun c => absurd rfl c)
  exact kk sv vi vl2 ns hW hI1 cs ss (by omega) (by omega)
theorem lwc_42 {G : GT} {Γ : CT} {MC MS cs ss b Ls ns : Nat} {xs : Nat → Int32} {sv : SV} {vi : VI} {vl : VL} {x3 : Int32} {INV : Nat → VI → VL → Prop} (B : Base G Γ mL 1300 MC MS) (A : LawAt G Γ b Ls xs) (hin1 : vp_in (x3 + 1) Ls) (hin2 : vp_in (x3 + 2) Ls) (hin3 : vp_in (x3 + 3) Ls) (hin4 : vp_in (x3 + 4) Ls) (hin5 : vp_in (x3 + 5) Ls) (hcs : cs + 25 ≤ MC) (hss : ss + 4060 ≤ MS) (hW : WF sv ns) (hI : INV ns vi vl) (hok : OK42 INV)
    (kk : ∀ (sv1 : SV) (vi1 : VI) (vl1 : VL) (ns1 : Nat), WF sv1 ns1 → INV ns1 vi1 vl1 → ∀ cs1 ss1 : Nat, cs1 ≤ cs + 25 → ss1 ≤ ss + 4060 → J G Γ cs1 ss1 1649 [(0, .ref b), (1, .ref (G.1 + 0)), (2, .ref (G.1 + 63)), (3, .int x3)] [] sv1 vi1 vl1) : J G Γ cs ss 1593 [(0, .ref b), (1, .ref (G.1 + 0)), (2, .ref (G.1 + 63)), (3, .int x3)] [] sv vi vl := by
  obtain ⟨r, hrx, hry, hI1⟩ := hok ns vi vl (xs (x3 + 1).toNatClampNeg) (xs (x3 + 2).toNatClampNeg) hI
  refine j_aload_n B dL_law_1593 rfl 1 rfl ?_
  refine j_aload_n B dL_law_1594 rfl 0 rfl ?_
  refine j_iload_n B dL_law_1595 rfl 3 rfl ?_
  refine j_iconst B dL_law_1596 (v := 1) (by decide) ?_
  refine j_iadd B dL_law_1597 ?_
  refine j_sld B A hin1 dL_law_1598 ?_
  refine j_aload_n B dL_law_1599 rfl 0 rfl ?_
  refine j_iload_n B dL_law_1600 rfl 3 rfl ?_
  refine j_iconst B dL_law_1601 (v := 2) (by decide) ?_
  refine j_iadd B dL_law_1602 ?_
  refine j_sld B A hin2 dL_law_1603 ?_
  refine j_cVI (rest := []) B (tX9_taken hW hrx) cls9 (wf_2 hW) jt_RL_191 wi_X9_taken ws_X9_taken rfl (by omega) (by omega) (by omega) rfl (Nat.le_of_ble_eq_true rfl) dL_law_1604 ?_
  refine j_aload_n B dL_law_1607 rfl 2 rfl ?_
  refine j_aload_n B dL_law_1608 rfl 0 rfl ?_
  refine j_iload_n B dL_law_1609 rfl 3 rfl ?_
  refine j_iconst B dL_law_1610 (v := 1) (by decide) ?_
  refine j_iadd B dL_law_1611 ?_
  refine j_sld B A hin1 dL_law_1612 ?_
  refine j_aload_n B dL_law_1613 rfl 0 rfl ?_
  refine j_iload_n B dL_law_1614 rfl 3 rfl ?_
  refine j_iconst B dL_law_1615 (v := 2) (by decide) ?_
  refine j_iadd B dL_law_1616 ?_
  refine j_sld B A hin2 dL_law_1617 ?_
  refine j_cVI (rest := [.int r]) B (tX10_taken hW hry) cls10 (wf_65 hW) jt_RL_194 wi_X10_taken ws_X10_taken rfl (by omega) (by omega) (by omega) rfl (Nat.le_of_ble_eq_true rfl) dL_law_1618 ?_
  refine j_icmp_eq (tgt := 1649) B dL_law_1621 (by decide) (fun _ => ?_) (fun c => absurd rfl c)
  exact kk sv vi vl ns hW hI1 cs ss (by omega) (by omega)
theorem lwc_43 {G : GT} {Γ : CT} {MC MS cs ss b Ls ns : Nat} {xs : Nat → Int32} {sv : SV} {vi : VI} {vl : VL} {x3 : Int32} {INV : Nat → VI → VL → Prop} (B : Base G Γ mL 1300 MC MS) (A : LawAt G Γ b Ls xs) (hin1 : vp_in (x3 + 1) Ls) (hin2 : vp_in (x3 + 2) Ls) (hin3 : vp_in (x3 + 3) Ls) (hin4 : vp_in (x3 + 4) Ls) (hin5 : vp_in (x3 + 5) Ls) (hcs : cs + 25 ≤ MC) (hss : ss + 4060 ≤ MS) (hW : WF sv ns) (hI : INV ns vi vl) (hok : OK43 INV)
    (kk : ∀ (sv1 : SV) (vi1 : VI) (vl1 : VL) (ns1 : Nat), WF sv1 ns1 → INV ns1 vi1 vl1 → ∀ cs1 ss1 : Nat, cs1 ≤ cs + 25 → ss1 ≤ ss + 4060 → J G Γ cs1 ss1 1649 [(0, .ref b), (1, .ref (G.1 + 0)), (2, .ref (G.1 + 63)), (3, .int x3)] [] sv1 vi1 vl1) : J G Γ cs ss 1626 [(0, .ref b), (1, .ref (G.1 + 0)), (2, .ref (G.1 + 63)), (3, .int x3)] [] sv vi vl := by
  obtain ⟨r, hrx, hry, hI1⟩ := hok ns vi vl (xs (x3 + 1).toNatClampNeg) hI
  refine j_aload_n B dL_law_1626 rfl 1 rfl ?_
  refine j_aload_n B dL_law_1627 rfl 0 rfl ?_
  refine j_iload_n B dL_law_1628 rfl 3 rfl ?_
  refine j_iconst B dL_law_1629 (v := 1) (by decide) ?_
  refine j_iadd B dL_law_1630 ?_
  refine j_sld B A hin1 dL_law_1631 ?_
  refine j_cVI (rest := []) B (tX9_count hW hrx) cls9 (wf_2 hW) jt_RL_195 wi_X9_count ws_X9_count rfl (by omega) (by omega) (by omega) rfl (Nat.le_of_ble_eq_true rfl) dL_law_1632 ?_
  refine j_aload_n B dL_law_1635 rfl 2 rfl ?_
  refine j_aload_n B dL_law_1636 rfl 0 rfl ?_
  refine j_iload_n B dL_law_1637 rfl 3 rfl ?_
  refine j_iconst B dL_law_1638 (v := 1) (by decide) ?_
  refine j_iadd B dL_law_1639 ?_
  refine j_sld B A hin1 dL_law_1640 ?_
  refine j_cVI (rest := [.int r]) B (tX10_count hW hry) cls10 (wf_65 hW) jt_RL_198 wi_X10_count ws_X10_count rfl (by omega) (by omega) (by omega) rfl (Nat.le_of_ble_eq_true rfl) dL_law_1641 ?_
  refine j_icmp_eq (tgt := 1649) B dL_law_1644 (by decide) (fun _ => ?_) (fun c => absurd rfl c)
  exact kk sv vi vl ns hW hI1 cs ss (by omega) (by omega)
theorem lw_gt {j Ls : Nat} (h : Ls < 6 * j + 6) (h2 : 6 * j + 6 < 100000) : Int32.ofNat Ls - 6 < nI (6 * j) := by
  rw [Int32.lt_iff_toInt_lt, nI_toInt (by omega)]
  have e1 : (Int32.ofNat Ls).toInt = (Ls : Int) := nI_toInt (n := Ls) (by omega)
  have e2 : (Int32.ofNat Ls - 6).toInt = (Ls : Int) - 6 := by
    rw [Int32.toInt_sub, e1]
    show ((Ls : Int) - 6).bmod (2 ^ 32) = _
    rw [Int.bmod_eq_of_le (by omega) (by omega)]
  rw [e2]
  omega
/-- THE LAW'S LOOP, from its head on, with the two objects made -/
theorem law_loop {G : GT} {Γ : CT} {b Ls : Nat} {xs : Nat → Int32} {INV : Nat → VI → VL → Prop} (hL : Ls ≤ 3072) (B : Base G Γ mL 1300 600000 7302250) (A : LawAt G Γ b Ls xs) (hok : OKall INV) :
    ∀ (n j : Nat), 6 * j + 6 * n = 3078 → ∀ (cs ss ns : Nat) (sv : SV) (vi : VI) (vl : VL), WF sv ns → INV ns vi vl → cs ≤ 1000 + 25 * j → ss ≤ 100000 + 4060 * j → J G Γ cs ss 18 [(0, .ref b), (1, .ref (G.1 + 0)), (2, .ref (G.1 + 63)), (3, .int (nI (6 * j)))] [] sv vi vl := by
  intro n
  induction n with
  | zero =>
    intro j hj cs ss ns sv vi vl hW hI hcs hss
    refine j_iload_n B dL_law_18 rfl 3 rfl ?_
    refine j_aload_n B dL_law_19 rfl 0 rfl ?_
    refine j_slen B A dL_law_20 ?_
    refine j_bipush B dL_law_21 (v := 6) (by decide) ?_
    refine j_isub B dL_law_23 ?_
    refine j_icmp_gt (tgt := 1655) B dL_law_24 (by decide) (fun c => ?_) (fun c => ?_)
    · refine j_iconst B dL_law_1655 (v := 1) (by decide) ?_
      exact j_lawret B A dL_law_1656 (by omega) (by omega)
    · exact absurd (lw_gt (by omega) (by omega)) c
  | succ n ih =>
    intro j hj cs ss ns sv vi vl hW hI hcs hss
    refine j_iload_n B dL_law_18 rfl 3 rfl ?_
    refine j_aload_n B dL_law_19 rfl 0 rfl ?_
    refine j_slen B A dL_law_20 ?_
    refine j_bipush B dL_law_21 (v := 6) (by decide) ?_
    refine j_isub B dL_law_23 ?_
    refine j_icmp_gt (tgt := 1655) B dL_law_24 (by decide) (fun c => ?_) (fun c => ?_)
    · refine j_iconst B dL_law_1655 (v := 1) (by decide) ?_
      exact j_lawret B A dL_law_1656 (by omega) (by omega)
    · have h6 : 6 * j + 6 ≤ Ls := by
        rcases Nat.lt_or_ge Ls (6 * j + 6) with q | q
        · exact absurd (lw_gt q (by omega)) c
        · exact q
      have hin0 : vp_in (nI (6 * j)) Ls := vp_in_nI (by omega) (by omega)
      have hin1 : vp_in (nI (6 * j) + 1) Ls := by rw [show (1 : Int32) = nI 1 from rfl, nI_add]; exact vp_in_nI (by omega) (by omega)
      have hin2 : vp_in (nI (6 * j) + 2) Ls := by rw [show (2 : Int32) = nI 2 from rfl, nI_add]; exact vp_in_nI (by omega) (by omega)
      have hin3 : vp_in (nI (6 * j) + 3) Ls := by rw [show (3 : Int32) = nI 3 from rfl, nI_add]; exact vp_in_nI (by omega) (by omega)
      have hin4 : vp_in (nI (6 * j) + 4) Ls := by rw [show (4 : Int32) = nI 4 from rfl, nI_add]; exact vp_in_nI (by omega) (by omega)
      have hin5 : vp_in (nI (6 * j) + 5) Ls := by rw [show (5 : Int32) = nI 5 from rfl, nI_add]; exact vp_in_nI (by omega) (by omega)
      refine j_aload_n B dL_law_27 rfl 0 rfl ?_
      refine j_iload_n B dL_law_28 rfl 3 rfl ?_
      refine j_sld B A hin0 dL_law_29 ?_
      refine j_bipush B dL_law_30 (v := 63) (by decide) ?_
      refine j_iand B dL_law_32 ?_
      have kk : ∀ (sv1 : SV) (vi1 : VI) (vl1 : VL) (ns1 : Nat), WF sv1 ns1 → INV ns1 vi1 vl1 → ∀ cs1 ss1 : Nat, cs1 ≤ cs + 25 → ss1 ≤ ss + 4060 → J G Γ cs1 ss1 1649 [(0, .ref b), (1, .ref (G.1 + 0)), (2, .ref (G.1 + 63)), (3, .int (nI (6 * j)))] [] sv1 vi1 vl1 := by
        intro sv1 vi1 vl1 ns1 hW1 hI1 cs1 ss1 h1 h2
        refine j_iinc (v := nI (6 * (j + 1))) (L' := [(3, .int (nI (6 * (j + 1)))), (0, .ref b), (1, .ref (G.1 + 0)), (2, .ref (G.1 + 63))]) B dL_law_1649 3 rfl (by rw [show Int32.ofInt 6 = nI 6 from rfl, nI_add]; congr 1) (by decide) rfl ?_
        refine j_goto (tgt := 18) B dL_law_1652 (by decide) ?_
        refine j_locals [1, 2, 3, 0] rfl ?_
        have q1 : 6 * (j + 1) + 6 * n = 3078 := by omega
        have q2 : cs1 ≤ 1000 + 25 * (j + 1) := by omega
        have q3 : ss1 ≤ 100000 + 4060 * (j + 1) := by
          rw [Nat.mul_succ, ← Nat.add_assoc]
          exact Nat.le_trans h2 (Nat.add_le_add_right hss 4060)
        have q4 := ih (j + 1) q1 cs1 ss1 ns1 sv1 vi1 vl1 hW1 hI1 q2 q3
        exact q4
      obtain ⟨w, ew⟩ : ∃ w, w = xs (nI (6 * j)).toNatClampNeg &&& 63 := ⟨_, rfl⟩
      rw [← ew]
      by_cases c0 : w = 0
      · refine j_tableIn (off := 191) (tgt := 224) B dL_law_33 (by rw [c0]; decide) (by rw [c0]; decide) (by rw [c0]; decide) (by decide) ?_
        exact lwc_0 B A hin1 hin2 hin3 hin4 hin5 (by omega) (by omega) hW hI (hok.1) kk
      by_cases c1 : w = 1
      · refine j_tableIn (off := 224) (tgt := 257) B dL_law_33 (by rw [c1]; decide) (by rw [c1]; decide) (by rw [c1]; decide) (by decide) ?_
        exact lwc_1 B A hin1 hin2 hin3 hin4 hin5 (by omega) (by omega) hW hI (hok.2.1) kk
      by_cases c2 : w = 2
      · refine j_tableIn (off := 267) (tgt := 300) B dL_law_33 (by rw [c2]; decide) (by rw [c2]; decide) (by rw [c2]; decide) (by decide) ?_
        exact lwc_2 B A hin1 hin2 hin3 hin4 hin5 (by omega) (by omega) hW hI (hok.2.2.1) kk
      by_cases c3 : w = 3
      · refine j_tableIn (off := 310) (tgt := 343) B dL_law_33 (by rw [c3]; decide) (by rw [c3]; decide) (by rw [c3]; decide) (by decide) ?_
        exact lwc_3 B A hin1 hin2 hin3 hin4 hin5 (by omega) (by omega) hW hI (hok.2.2.2.1) kk
      by_cases c4 : w = 4
      · refine j_tableIn (off := 343) (tgt := 376) B dL_law_33 (by rw [c4]; decide) (by rw [c4]; decide) (by rw [c4]; decide) (by decide) ?_
        exact lwc_4 B A hin1 hin2 hin3 hin4 hin5 (by omega) (by omega) hW hI (hok.2.2.2.2.1) kk
      by_cases c5 : w = 5
      · refine j_tableIn (off := 386) (tgt := 419) B dL_law_33 (by rw [c5]; decide) (by rw [c5]; decide) (by rw [c5]; decide) (by decide) ?_
        exact lwc_5 B A hin1 hin2 hin3 hin4 hin5 (by omega) (by omega) hW hI (hok.2.2.2.2.2.1) kk
      by_cases c6 : w = 6
      · refine j_tableIn (off := 409) (tgt := 442) B dL_law_33 (by rw [c6]; decide) (by rw [c6]; decide) (by rw [c6]; decide) (by decide) ?_
        exact lwc_6 B A hin1 hin2 hin3 hin4 hin5 (by omega) (by omega) hW hI (hok.2.2.2.2.2.2.1) kk
      by_cases c7 : w = 7
      · refine j_tableIn (off := 422) (tgt := 455) B dL_law_33 (by rw [c7]; decide) (by rw [c7]; decide) (by rw [c7]; decide) (by decide) ?_
        exact lwc_7 B A hin1 hin2 hin3 hin4 hin5 (by omega) (by omega) hW hI (hok.2.2.2.2.2.2.2.1) kk
      by_cases c8 : w = 8
      · refine j_tableIn (off := 455) (tgt := 488) B dL_law_33 (by rw [c8]; decide) (by rw [c8]; decide) (by rw [c8]; decide) (by decide) ?_
        exact lwc_8 B A hin1 hin2 hin3 hin4 hin5 (by omega) (by omega) hW hI (hok.2.2.2.2.2.2.2.2.1) kk
      by_cases c9 : w = 9
      · refine j_tableIn (off := 508) (tgt := 541) B dL_law_33 (by rw [c9]; decide) (by rw [c9]; decide) (by rw [c9]; decide) (by decide) ?_
        exact lwc_9 B A hin1 hin2 hin3 hin4 hin5 (by omega) (by omega) hW hI (hok.2.2.2.2.2.2.2.2.2.1) kk
      by_cases c10 : w = 10
      · refine j_tableIn (off := 561) (tgt := 594) B dL_law_33 (by rw [c10]; decide) (by rw [c10]; decide) (by rw [c10]; decide) (by decide) ?_
        exact lwc_10 B A hin1 hin2 hin3 hin4 hin5 (by omega) (by omega) hW hI (hok.2.2.2.2.2.2.2.2.2.2.1) kk
      by_cases c11 : w = 11
      · refine j_tableIn (off := 604) (tgt := 637) B dL_law_33 (by rw [c11]; decide) (by rw [c11]; decide) (by rw [c11]; decide) (by decide) ?_
        exact lwc_11 B A hin1 hin2 hin3 hin4 hin5 (by omega) (by omega) hW hI (hok.2.2.2.2.2.2.2.2.2.2.2.1) kk
      by_cases c12 : w = 12
      · refine j_tableIn (off := 637) (tgt := 670) B dL_law_33 (by rw [c12]; decide) (by rw [c12]; decide) (by rw [c12]; decide) (by decide) ?_
        exact lwc_12 B A hin1 hin2 hin3 hin4 hin5 (by omega) (by omega) hW hI (hok.2.2.2.2.2.2.2.2.2.2.2.2.1) kk
      by_cases c13 : w = 13
      · refine j_tableIn (off := 680) (tgt := 713) B dL_law_33 (by rw [c13]; decide) (by rw [c13]; decide) (by rw [c13]; decide) (by decide) ?_
        exact lwc_13 B A hin1 hin2 hin3 hin4 hin5 (by omega) (by omega) hW hI (hok.2.2.2.2.2.2.2.2.2.2.2.2.2.1) kk
      by_cases c14 : w = 14
      · refine j_tableIn (off := 703) (tgt := 736) B dL_law_33 (by rw [c14]; decide) (by rw [c14]; decide) (by rw [c14]; decide) (by decide) ?_
        exact lwc_14 B A hin1 hin2 hin3 hin4 hin5 (by omega) (by omega) hW hI (hok.2.2.2.2.2.2.2.2.2.2.2.2.2.2.1) kk
      by_cases c15 : w = 15
      · refine j_tableIn (off := 736) (tgt := 769) B dL_law_33 (by rw [c15]; decide) (by rw [c15]; decide) (by rw [c15]; decide) (by decide) ?_
        exact lwc_15 B A hin1 hin2 hin3 hin4 hin5 (by omega) (by omega) hW hI (hok.2.2.2.2.2.2.2.2.2.2.2.2.2.2.2.1) kk
      by_cases c16 : w = 16
      · refine j_tableIn (off := 749) (tgt := 782) B dL_law_33 (by rw [c16]; decide) (by rw [c16]; decide) (by rw [c16]; decide) (by decide) ?_
        exact lwc_16 B A hin1 hin2 hin3 hin4 hin5 (by omega) (by omega) hW hI (hok.2.2.2.2.2.2.2.2.2.2.2.2.2.2.2.2.1) kk
      by_cases c17 : w = 17
      · refine j_tableIn (off := 783) (tgt := 816) B dL_law_33 (by rw [c17]; decide) (by rw [c17]; decide) (by rw [c17]; decide) (by decide) ?_
        exact lwc_17 B A hin1 hin2 hin3 hin4 hin5 (by omega) (by omega) hW hI (hok.2.2.2.2.2.2.2.2.2.2.2.2.2.2.2.2.2.1) kk
      by_cases c18 : w = 18
      · refine j_tableIn (off := 826) (tgt := 859) B dL_law_33 (by rw [c18]; decide) (by rw [c18]; decide) (by rw [c18]; decide) (by decide) ?_
        exact lwc_18 B A hin1 hin2 hin3 hin4 hin5 (by omega) (by omega) hW hI (hok.2.2.2.2.2.2.2.2.2.2.2.2.2.2.2.2.2.2.1) kk
      by_cases c19 : w = 19
      · refine j_tableIn (off := 849) (tgt := 882) B dL_law_33 (by rw [c19]; decide) (by rw [c19]; decide) (by rw [c19]; decide) (by decide) ?_
        exact lwc_19 B A hin1 hin2 hin3 hin4 hin5 (by omega) (by omega) hW hI (hok.2.2.2.2.2.2.2.2.2.2.2.2.2.2.2.2.2.2.2.1) kk
      by_cases c20 : w = 20
      · refine j_tableIn (off := 882) (tgt := 915) B dL_law_33 (by rw [c20]; decide) (by rw [c20]; decide) (by rw [c20]; decide) (by decide) ?_
        exact lwc_20 B A hin1 hin2 hin3 hin4 hin5 (by omega) (by omega) hW hI (hok.2.2.2.2.2.2.2.2.2.2.2.2.2.2.2.2.2.2.2.2.1) kk
      by_cases c21 : w = 21
      · refine j_tableIn (off := 915) (tgt := 948) B dL_law_33 (by rw [c21]; decide) (by rw [c21]; decide) (by rw [c21]; decide) (by decide) ?_
        exact lwc_21 B A hin1 hin2 hin3 hin4 hin5 (by omega) (by omega) hW hI (hok.2.2.2.2.2.2.2.2.2.2.2.2.2.2.2.2.2.2.2.2.2.1) kk
      by_cases c22 : w = 22
      · refine j_tableIn (off := 938) (tgt := 971) B dL_law_33 (by rw [c22]; decide) (by rw [c22]; decide) (by rw [c22]; decide) (by decide) ?_
        exact lwc_22 B A hin1 hin2 hin3 hin4 hin5 (by omega) (by omega) hW hI (hok.2.2.2.2.2.2.2.2.2.2.2.2.2.2.2.2.2.2.2.2.2.2.1) kk
      by_cases c23 : w = 23
      · refine j_tableIn (off := 972) (tgt := 1005) B dL_law_33 (by rw [c23]; decide) (by rw [c23]; decide) (by rw [c23]; decide) (by decide) ?_
        exact lwc_23 B A hin1 hin2 hin3 hin4 hin5 (by omega) (by omega) hW hI (hok.2.2.2.2.2.2.2.2.2.2.2.2.2.2.2.2.2.2.2.2.2.2.2.1) kk
      by_cases c24 : w = 24
      · refine j_tableIn (off := 985) (tgt := 1018) B dL_law_33 (by rw [c24]; decide) (by rw [c24]; decide) (by rw [c24]; decide) (by decide) ?_
        exact lwc_24 B A hin1 hin2 hin3 hin4 hin5 (by omega) (by omega) hW hI (hok.2.2.2.2.2.2.2.2.2.2.2.2.2.2.2.2.2.2.2.2.2.2.2.2.1) kk
      by_cases c25 : w = 25
      · refine j_tableIn (off := 1018) (tgt := 1051) B dL_law_33 (by rw [c25]; decide) (by rw [c25]; decide) (by rw [c25]; decide) (by decide) ?_
        exact lwc_25 B A hin1 hin2 hin3 hin4 hin5 (by omega) (by omega) hW hI (hok.2.2.2.2.2.2.2.2.2.2.2.2.2.2.2.2.2.2.2.2.2.2.2.2.2.1) kk
      by_cases c26 : w = 26
      · refine j_tableIn (off := 1071) (tgt := 1104) B dL_law_33 (by rw [c26]; decide) (by rw [c26]; decide) (by rw [c26]; decide) (by decide) ?_
        exact lwc_26 B A hin1 hin2 hin3 hin4 hin5 (by omega) (by omega) hW hI (hok.2.2.2.2.2.2.2.2.2.2.2.2.2.2.2.2.2.2.2.2.2.2.2.2.2.2.1) kk
      by_cases c27 : w = 27
      · refine j_tableIn (off := 1094) (tgt := 1127) B dL_law_33 (by rw [c27]; decide) (by rw [c27]; decide) (by rw [c27]; decide) (by decide) ?_
        exact lwc_27 B A hin1 hin2 hin3 hin4 hin5 (by omega) (by omega) hW hI (hok.2.2.2.2.2.2.2.2.2.2.2.2.2.2.2.2.2.2.2.2.2.2.2.2.2.2.2.1) kk
      by_cases c28 : w = 28
      · refine j_tableIn (off := 1127) (tgt := 1160) B dL_law_33 (by rw [c28]; decide) (by rw [c28]; decide) (by rw [c28]; decide) (by decide) ?_
        exact lwc_28 B A hin1 hin2 hin3 hin4 hin5 (by omega) (by omega) hW hI (hok.2.2.2.2.2.2.2.2.2.2.2.2.2.2.2.2.2.2.2.2.2.2.2.2.2.2.2.2.1) kk
      by_cases c29 : w = 29
      · refine j_tableIn (off := 1150) (tgt := 1183) B dL_law_33 (by rw [c29]; decide) (by rw [c29]; decide) (by rw [c29]; decide) (by decide) ?_
        exact lwc_29 B A hin1 hin2 hin3 hin4 hin5 (by omega) (by omega) hW hI (hok.2.2.2.2.2.2.2.2.2.2.2.2.2.2.2.2.2.2.2.2.2.2.2.2.2.2.2.2.2.1) kk
      by_cases c30 : w = 30
      · refine j_tableIn (off := 1173) (tgt := 1206) B dL_law_33 (by rw [c30]; decide) (by rw [c30]; decide) (by rw [c30]; decide) (by decide) ?_
        exact lwc_30 B A hin1 hin2 hin3 hin4 hin5 (by omega) (by omega) hW hI (hok.2.2.2.2.2.2.2.2.2.2.2.2.2.2.2.2.2.2.2.2.2.2.2.2.2.2.2.2.2.2.1) kk
      by_cases c31 : w = 31
      · refine j_tableIn (off := 1186) (tgt := 1219) B dL_law_33 (by rw [c31]; decide) (by rw [c31]; decide) (by rw [c31]; decide) (by decide) ?_
        exact lwc_31 B A hin1 hin2 hin3 hin4 hin5 (by omega) (by omega) hW hI (hok.2.2.2.2.2.2.2.2.2.2.2.2.2.2.2.2.2.2.2.2.2.2.2.2.2.2.2.2.2.2.2.1) kk
      by_cases c32 : w = 32
      · refine j_tableIn (off := 1199) (tgt := 1232) B dL_law_33 (by rw [c32]; decide) (by rw [c32]; decide) (by rw [c32]; decide) (by decide) ?_
        exact lwc_32 B A hin1 hin2 hin3 hin4 hin5 (by omega) (by omega) hW hI (hok.2.2.2.2.2.2.2.2.2.2.2.2.2.2.2.2.2.2.2.2.2.2.2.2.2.2.2.2.2.2.2.2.1) kk
      by_cases c33 : w = 33
      · refine j_tableIn (off := 1212) (tgt := 1245) B dL_law_33 (by rw [c33]; decide) (by rw [c33]; decide) (by rw [c33]; decide) (by decide) ?_
        exact lwc_33 B A hin1 hin2 hin3 hin4 hin5 (by omega) (by omega) hW hI (hok.2.2.2.2.2.2.2.2.2.2.2.2.2.2.2.2.2.2.2.2.2.2.2.2.2.2.2.2.2.2.2.2.2.1) kk
      by_cases c34 : w = 34
      · refine j_tableIn (off := 1225) (tgt := 1258) B dL_law_33 (by rw [c34]; decide) (by rw [c34]; decide) (by rw [c34]; decide) (by decide) ?_
        exact lwc_34 B A hin1 hin2 hin3 hin4 hin5 (by omega) (by omega) hW hI (hok.2.2.2.2.2.2.2.2.2.2.2.2.2.2.2.2.2.2.2.2.2.2.2.2.2.2.2.2.2.2.2.2.2.2.1) kk
      by_cases c35 : w = 35
      · refine j_tableIn (off := 1248) (tgt := 1281) B dL_law_33 (by rw [c35]; decide) (by rw [c35]; decide) (by rw [c35]; decide) (by decide) ?_
        exact lwc_35 B A hin1 hin2 hin3 hin4 hin5 (by omega) (by omega) hW hI (hok.2.2.2.2.2.2.2.2.2.2.2.2.2.2.2.2.2.2.2.2.2.2.2.2.2.2.2.2.2.2.2.2.2.2.2.1) kk
      by_cases c36 : w = 36
      · refine j_tableIn (off := 1291) (tgt := 1324) B dL_law_33 (by rw [c36]; decide) (by rw [c36]; decide) (by rw [c36]; decide) (by decide) ?_
        exact lwc_36 B A hin1 hin2 hin3 hin4 hin5 (by omega) (by omega) hW hI (hok.2.2.2.2.2.2.2.2.2.2.2.2.2.2.2.2.2.2.2.2.2.2.2.2.2.2.2.2.2.2.2.2.2.2.2.2.1) kk
      by_cases c37 : w = 37
      · refine j_tableIn (off := 1314) (tgt := 1347) B dL_law_33 (by rw [c37]; decide) (by rw [c37]; decide) (by rw [c37]; decide) (by decide) ?_
        exact lwc_37 B A hin1 hin2 hin3 hin4 hin5 (by omega) (by omega) hW hI (hok.2.2.2.2.2.2.2.2.2.2.2.2.2.2.2.2.2.2.2.2.2.2.2.2.2.2.2.2.2.2.2.2.2.2.2.2.2.1) kk
      by_cases c38 : w = 38
      · refine j_tableIn (off := 1347) (tgt := 1380) B dL_law_33 (by rw [c38]; decide) (by rw [c38]; decide) (by rw [c38]; decide) (by decide) ?_
        exact lwc_38 B A hin1 hin2 hin3 hin4 hin5 (by omega) (by omega) hW hI (hok.2.2.2.2.2.2.2.2.2.2.2.2.2.2.2.2.2.2.2.2.2.2.2.2.2.2.2.2.2.2.2.2.2.2.2.2.2.2.1) kk
      by_cases c39 : w = 39
      · refine j_tableIn (off := 1390) (tgt := 1423) B dL_law_33 (by rw [c39]; decide) (by rw [c39]; decide) (by rw [c39]; decide) (by decide) ?_
        exact lwc_39 B A hin1 hin2 hin3 hin4 hin5 (by omega) (by omega) hW hI (hok.2.2.2.2.2.2.2.2.2.2.2.2.2.2.2.2.2.2.2.2.2.2.2.2.2.2.2.2.2.2.2.2.2.2.2.2.2.2.2.1) kk
      by_cases c40 : w = 40
      · refine j_tableIn (off := 1463) (tgt := 1496) B dL_law_33 (by rw [c40]; decide) (by rw [c40]; decide) (by rw [c40]; decide) (by decide) ?_
        exact lwc_40 B A hin1 hin2 hin3 hin4 hin5 (by omega) (by omega) hW hI (hok.2.2.2.2.2.2.2.2.2.2.2.2.2.2.2.2.2.2.2.2.2.2.2.2.2.2.2.2.2.2.2.2.2.2.2.2.2.2.2.2.1) kk
      by_cases c41 : w = 41
      · refine j_tableIn (off := 1497) (tgt := 1530) B dL_law_33 (by rw [c41]; decide) (by rw [c41]; decide) (by rw [c41]; decide) (by decide) ?_
        exact lwc_41 B A hin1 hin2 hin3 hin4 hin5 (by omega) (by omega) hW hI (hok.2.2.2.2.2.2.2.2.2.2.2.2.2.2.2.2.2.2.2.2.2.2.2.2.2.2.2.2.2.2.2.2.2.2.2.2.2.2.2.2.2.1) kk
      by_cases c42 : w = 42
      · refine j_tableIn (off := 1560) (tgt := 1593) B dL_law_33 (by rw [c42]; decide) (by rw [c42]; decide) (by rw [c42]; decide) (by decide) ?_
        exact lwc_42 B A hin1 hin2 hin3 hin4 hin5 (by omega) (by omega) hW hI (hok.2.2.2.2.2.2.2.2.2.2.2.2.2.2.2.2.2.2.2.2.2.2.2.2.2.2.2.2.2.2.2.2.2.2.2.2.2.2.2.2.2.2.1) kk
      by_cases c43 : w = 43
      · refine j_tableIn (off := 1593) (tgt := 1626) B dL_law_33 (by rw [c43]; decide) (by rw [c43]; decide) (by rw [c43]; decide) (by decide) ?_
        exact lwc_43 B A hin1 hin2 hin3 hin4 hin5 (by omega) (by omega) hW hI (hok.2.2.2.2.2.2.2.2.2.2.2.2.2.2.2.2.2.2.2.2.2.2.2.2.2.2.2.2.2.2.2.2.2.2.2.2.2.2.2.2.2.2.2) kk
      refine j_tableOut (tgt := 1649) B dL_law_33 (by have n0 := lv_neT c0 (a := 0) (by decide); have n1 := lv_neT c1 (a := 1) (by decide); have n2 := lv_neT c2 (a := 2) (by decide); have n3 := lv_neT c3 (a := 3) (by decide); have n4 := lv_neT c4 (a := 4) (by decide); have n5 := lv_neT c5 (a := 5) (by decide); have n6 := lv_neT c6 (a := 6) (by decide); have n7 := lv_neT c7 (a := 7) (by decide); have n8 := lv_neT c8 (a := 8) (by decide); have n9 := lv_neT c9 (a := 9) (by decide); have n10 := lv_neT c10 (a := 10) (by decide); have n11 := lv_neT c11 (a := 11) (by decide); have n12 := lv_neT c12 (a := 12) (by decide); have n13 := lv_neT c13 (a := 13) (by decide); have n14 := lv_neT c14 (a := 14) (by decide); have n15 := lv_neT c15 (a := 15) (by decide); have n16 := lv_neT c16 (a := 16) (by decide); have n17 := lv_neT c17 (a := 17) (by decide); have n18 := lv_neT c18 (a := 18) (by decide); have n19 := lv_neT c19 (a := 19) (by decide); have n20 := lv_neT c20 (a := 20) (by decide); have n21 := lv_neT c21 (a := 21) (by decide); have n22 := lv_neT c22 (a := 22) (by decide); have n23 := lv_neT c23 (a := 23) (by decide); have n24 := lv_neT c24 (a := 24) (by decide); have n25 := lv_neT c25 (a := 25) (by decide); have n26 := lv_neT c26 (a := 26) (by decide); have n27 := lv_neT c27 (a := 27) (by decide); have n28 := lv_neT c28 (a := 28) (by decide); have n29 := lv_neT c29 (a := 29) (by decide); have n30 := lv_neT c30 (a := 30) (by decide); have n31 := lv_neT c31 (a := 31) (by decide); have n32 := lv_neT c32 (a := 32) (by decide); have n33 := lv_neT c33 (a := 33) (by decide); have n34 := lv_neT c34 (a := 34) (by decide); have n35 := lv_neT c35 (a := 35) (by decide); have n36 := lv_neT c36 (a := 36) (by decide); have n37 := lv_neT c37 (a := 37) (by decide); have n38 := lv_neT c38 (a := 38) (by decide); have n39 := lv_neT c39 (a := 39) (by decide); have n40 := lv_neT c40 (a := 40) (by decide); have n41 := lv_neT c41 (a := 41) (by decide); have n42 := lv_neT c42 (a := 42) (by decide); have n43 := lv_neT c43 (a := 43) (by decide); omega) (by decide) ?_
      exact kk sv vi vl ns hW hI cs ss (by omega) (by omega)
