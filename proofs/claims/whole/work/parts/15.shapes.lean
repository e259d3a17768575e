/-! HELPERS OF THE FUNCTIONS -/
def b2i (b : Bool) : Int32 := if b = true then 1 else 0
theorem b2i_0 {b : Bool} (h : b2i b = 0) : ¬ b = true := by cases b <;> simp_all [b2i]
theorem b2i_1 {b : Bool} (h : ¬ b2i b = 0) : b = true := by cases b <;> simp_all [b2i]
theorem b2i_n {b : Bool} (h : ¬ ¬ b2i b = 0) : ¬ b = true := by cases b <;> simp_all [b2i]
theorem b2i_or (b : Bool) : b2i b = 0 ∨ b2i b = 1 := by cases b <;> simp [b2i]
def inb (i : Int32) (n : Nat) : Bool := decide (0 ≤ i.toInt ∧ i.toInt < n)
def cpok (sp dp n : Int32) (n0 n1 : Nat) : Bool := decide (¬ sp < 0 ∧ ¬ dp < 0 ∧ ¬ n < 0 ∧ sp.toNatClampNeg + n.toNatClampNeg ≤ n0 ∧ dp.toNatClampNeg + n.toNatClampNeg ≤ n1)
def FU : Nat := 100000
def optS {α : Type} (r : Option Nat) (a : α) (b : Nat → α) : α := match r with
  | none => a
  | some q => b q
theorem h_pos {α : Type} {c : Prop} [Decidable c] {a b x : α} (hc : c) (h : (if c then a else b) = x) : a = x := by rw [if_pos hc] at h; exact h
theorem h_neg {α : Type} {c : Prop} [Decidable c] {a b x : α} (hc : ¬ c) (h : (if c then a else b) = x) : b = x := by rw [if_neg hc] at h; exact h
theorem h_nz {α : Type} {c : Prop} [Decidable c] {a : Option α} {x : α} (h : (if c then none else a) = some x) : ¬ c ∧ a = some x := by
  by_cases hc : c
  · rw [if_pos hc] at h; cases h
  · rw [if_neg hc] at h; exact ⟨hc, h⟩
theorem h_inb {α : Type} {i : Int32} {n : Nat} {a : Option α} {x : α} (h : (if inb i n = true then a else none) = some x) : vp_in i n ∧ a = some x := by
  by_cases hc : inb i n = true
  · rw [if_pos hc] at h
    simp only [inb, decide_eq_true_eq] at hc
    exact ⟨vp_in_iff.mpr hc, h⟩
  · rw [if_neg hc] at h; cases h
theorem h_cp {α : Type} {sp dp n : Int32} {n0 n1 : Nat} {a : Option α} {x : α} (h : (if cpok sp dp n n0 n1 = true then a else none) = some x) : (¬ sp < 0 ∧ ¬ dp < 0 ∧ ¬ n < 0 ∧ sp.toNatClampNeg + n.toNatClampNeg ≤ n0 ∧ dp.toNatClampNeg + n.toNatClampNeg ≤ n1) ∧ a = some x := by
  by_cases hc : cpok sp dp n n0 n1 = true
  · rw [if_pos hc] at h
    simp only [cpok, decide_eq_true_eq] at hc
    exact ⟨hc, h⟩
  · rw [if_neg hc] at h; cases h
theorem h_bind {α β : Type} {a : Option α} {f : α → Option β} {x : β} (h : a.bind f = some x) : ∃ r, a = some r ∧ f r = some x := by
  cases a with
  | none => cases h
  | some r => exact ⟨r, rfl, h⟩
theorem h_none {α : Type} {a : α} {b : Nat → α} {x : α} (h : optS none a b = x) : a = x := h
theorem h_some {α : Type} {q : Nat} {a : α} {b : Nat → α} {x : α} (h : optS (some q) a b = x) : b q = x := h
abbrev QV (sv : SV) (vi : VI) (vl : VL) : QT := fun r9 sv9 vi9 vl9 => none = r9 ∧ sv = sv9 ∧ vi = vi9 ∧ vl = vl9
abbrev QI (r : Int32) (sv : SV) (vi : VI) (vl : VL) : QT := fun r9 sv9 vi9 vl9 => some (.int r) = r9 ∧ sv = sv9 ∧ vi = vi9 ∧ vl = vl9
abbrev QJ (r : Int64) (sv : SV) (vi : VI) (vl : VL) : QT := fun r9 sv9 vi9 vl9 => some (.long r) = r9 ∧ sv = sv9 ∧ vi = vi9 ∧ vl = vl9
abbrev QN (G : GT) (r : Option Nat) (sv : SV) (vi : VI) (vl : VL) : QT := fun r9 sv9 vi9 vl9 => some (va_rf (r.map fun q => G.1 + q)) = r9 ∧ sv = sv9 ∧ vi = vi9 ∧ vl = vl9
section JK
variable {G : GT} {Γ : CT} {M : MI} {d MC MS : Nat} {cs ss pc : Nat} {L : List (Nat × Value)} {rest : List Value} {sv : SV} {vi : VI} {vl : VL}
theorem j_cVV (B : Base G Γ M d MC MS) {M' : MI} {d' n index o ci N : Nat} {av : List Value} {T9 : u_T} {ty0 : Nat → FieldType} {sv' : SV} {vi' : VI} {vl' : VL} (hC : Call G M' d' 0 0 (.ref (G.1 + o) :: av) sv vi vl (QV sv' vi' vl')) (hc : j_cls ci M'.1.cls T9 N ty0) (ho : Ob sv o ci) (ht : j_to M.1.cls index M' n) (w4 : Cond.instanceMethod M'.1 ∈ gtb) (w5 : Cond.selects M'.1.cls M'.1 M'.1 ∈ gtb) (hn : av.length = n) (hd : d' + 1 ≤ d) (hcs : cs ≤ MC) (hss : ss ≤ MS) {st : List Value} (hst9 : st = av.reverse ++ .ref (G.1 + o) :: rest) (hrest : (rest.map fun v => v.category).sum ≤ 8) (hdg : decode M.2.1 pc = .ok (.invokevirtual index, 3))
    (kk : J G Γ cs ss (pc + 3) L (rest) sv' vi' vl') : J G Γ cs ss pc L st sv vi vl := by
  refine j_callV B hC hc ho ht w4 w5 hn hd hcs hss hst9 hrest hdg ?_
  rintro _ _ _ _ ⟨rfl, rfl, rfl, rfl⟩
  exact kk
theorem j_cMV (B : Base G Γ M d MC MS) {M' : MI} {d' n index o ci N : Nat} {host : String} {av : List Value} {T9 : u_T} {ty0 : Nat → FieldType} {sv' : SV} {vi' : VI} {vl' : VL} (hC : Call G M' d' 0 0 (.ref (G.1 + o) :: av) sv vi vl (QV sv' vi' vl')) (hc : j_cls ci M'.1.cls T9 N ty0) (ho : Ob sv o ci) (hw : (M.1.cls, index, M'.1, host) ∈ j_nests) (w1 : Cond.code M'.1 M'.2.1 M'.2.2.1 M'.2.2.2 ∈ gtb) (w2 : Cond.initialized M'.1.cls ∈ gtb) (hdd : M'.1.cls ≠ "java/lang/invoke/MethodHandle" ∧ M'.1.cls ≠ "java/lang/invoke/VarHandle" ∧ (parseMethodDescriptor M'.1.desc).map (fun d => d.parameters.length) = some n) (hml' : M'.2.2.1 ≤ 45) (w4 : Cond.instanceMethod M'.1 ∈ gtb) (w5 : Cond.selects M'.1.cls M'.1 M'.1 ∈ gtb) (hn : av.length = n) (hd : d' + 1 ≤ d) (hcs : cs ≤ MC) (hss : ss ≤ MS) {st : List Value} (hst9 : st = av.reverse ++ .ref (G.1 + o) :: rest) (hrest : (rest.map fun v => v.category).sum ≤ 8) (hdg : decode M.2.1 pc = .ok (.invokevirtual index, 3))
    (kk : J G Γ cs ss (pc + 3) L (rest) sv' vi' vl') : J G Γ cs ss pc L st sv vi vl := by
  refine j_callVM B hC hc ho hw w1 w2 hdd hml' w4 w5 hn hd hcs hss hst9 hrest hdg ?_
  rintro _ _ _ _ ⟨rfl, rfl, rfl, rfl⟩
  exact kk
theorem j_cSV (B : Base G Γ M d MC MS) {M' : MI} {d' n index : Nat} {av : List Value} {sv' : SV} {vi' : VI} {vl' : VL} (hC : Call G M' d' 0 0 av sv vi vl (QV sv' vi' vl')) (ht : j_to M.1.cls index M' n) (w4 : Cond.static M'.1 ∈ gtb) (hn : av.length = n) (hd : d' + 1 ≤ d) (hcs : cs ≤ MC) (hss : ss ≤ MS) {st : List Value} (hst9 : st = av.reverse ++ rest) (hrest : (rest.map fun v => v.category).sum ≤ 8) (hdg : decode M.2.1 pc = .ok (.invokestatic index, 3))
    (kk : J G Γ cs ss (pc + 3) L (rest) sv' vi' vl') : J G Γ cs ss pc L st sv vi vl := by
  refine j_callS B hC ht w4 hn hd hcs hss hst9 hrest hdg ?_
  rintro _ _ _ _ ⟨rfl, rfl, rfl, rfl⟩
  exact kk
theorem j_cVI (B : Base G Γ M d MC MS) {M' : MI} {d' n index o ci N : Nat} {av : List Value} {T9 : u_T} {ty0 : Nat → FieldType} {r : Int32} {sv' : SV} {vi' : VI} {vl' : VL} (hC : Call G M' d' 0 0 (.ref (G.1 + o) :: av) sv vi vl (QI r sv' vi' vl')) (hc : j_cls ci M'.1.cls T9 N ty0) (ho : Ob sv o ci) (ht : j_to M.1.cls index M' n) (w4 : Cond.instanceMethod M'.1 ∈ gtb) (w5 : Cond.selects M'.1.cls M'.1 M'.1 ∈ gtb) (hn : av.length = n) (hd : d' + 1 ≤ d) (hcs : cs ≤ MC) (hss : ss ≤ MS) {st : List Value} (hst9 : st = av.reverse ++ .ref (G.1 + o) :: rest) (hrest : (rest.map fun v => v.category).sum ≤ 8) (hdg : decode M.2.1 pc = .ok (.invokevirtual index, 3))
    (kk : J G Γ cs ss (pc + 3) L (.int r :: rest) sv' vi' vl') : J G Γ cs ss pc L st sv vi vl := by
  refine j_callV B hC hc ho ht w4 w5 hn hd hcs hss hst9 hrest hdg ?_
  rintro _ _ _ _ ⟨rfl, rfl, rfl, rfl⟩
  exact kk
theorem j_cMI (B : Base G Γ M d MC MS) {M' : MI} {d' n index o ci N : Nat} {host : String} {av : List Value} {T9 : u_T} {ty0 : Nat → FieldType} {r : Int32} {sv' : SV} {vi' : VI} {vl' : VL} (hC : Call G M' d' 0 0 (.ref (G.1 + o) :: av) sv vi vl (QI r sv' vi' vl')) (hc : j_cls ci M'.1.cls T9 N ty0) (ho : Ob sv o ci) (hw : (M.1.cls, index, M'.1, host) ∈ j_nests) (w1 : Cond.code M'.1 M'.2.1 M'.2.2.1 M'.2.2.2 ∈ gtb) (w2 : Cond.initialized M'.1.cls ∈ gtb) (hdd : M'.1.cls ≠ "java/lang/invoke/MethodHandle" ∧ M'.1.cls ≠ "java/lang/invoke/VarHandle" ∧ (parseMethodDescriptor M'.1.desc).map (fun d => d.parameters.length) = some n) (hml' : M'.2.2.1 ≤ 45) (w4 : Cond.instanceMethod M'.1 ∈ gtb) (w5 : Cond.selects M'.1.cls M'.1 M'.1 ∈ gtb) (hn : av.length = n) (hd : d' + 1 ≤ d) (hcs : cs ≤ MC) (hss : ss ≤ MS) {st : List Value} (hst9 : st = av.reverse ++ .ref (G.1 + o) :: rest) (hrest : (rest.map fun v => v.category).sum ≤ 8) (hdg : decode M.2.1 pc = .ok (.invokevirtual index, 3))
    (kk : J G Γ cs ss (pc + 3) L (.int r :: rest) sv' vi' vl') : J G Γ cs ss pc L st sv vi vl := by
  refine j_callVM B hC hc ho hw w1 w2 hdd hml' w4 w5 hn hd hcs hss hst9 hrest hdg ?_
  rintro _ _ _ _ ⟨rfl, rfl, rfl, rfl⟩
  exact kk
theorem j_cSI (B : Base G Γ M d MC MS) {M' : MI} {d' n index : Nat} {av : List Value} {r : Int32} {sv' : SV} {vi' : VI} {vl' : VL} (hC : Call G M' d' 0 0 av sv vi vl (QI r sv' vi' vl')) (ht : j_to M.1.cls index M' n) (w4 : Cond.static M'.1 ∈ gtb) (hn : av.length = n) (hd : d' + 1 ≤ d) (hcs : cs ≤ MC) (hss : ss ≤ MS) {st : List Value} (hst9 : st = av.reverse ++ rest) (hrest : (rest.map fun v => v.category).sum ≤ 8) (hdg : decode M.2.1 pc = .ok (.invokestatic index, 3))
    (kk : J G Γ cs ss (pc + 3) L (.int r :: rest) sv' vi' vl') : J G Γ cs ss pc L st sv vi vl := by
  refine j_callS B hC ht w4 hn hd hcs hss hst9 hrest hdg ?_
  rintro _ _ _ _ ⟨rfl, rfl, rfl, rfl⟩
  exact kk
theorem j_cVJ (B : Base G Γ M d MC MS) {M' : MI} {d' n index o ci N : Nat} {av : List Value} {T9 : u_T} {ty0 : Nat → FieldType} {r : Int64} {sv' : SV} {vi' : VI} {vl' : VL} (hC : Call G M' d' 0 0 (.ref (G.1 + o) :: av) sv vi vl (QJ r sv' vi' vl')) (hc : j_cls ci M'.1.cls T9 N ty0) (ho : Ob sv o ci) (ht : j_to M.1.cls index M' n) (w4 : Cond.instanceMethod M'.1 ∈ gtb) (w5 : Cond.selects M'.1.cls M'.1 M'.1 ∈ gtb) (hn : av.length = n) (hd : d' + 1 ≤ d) (hcs : cs ≤ MC) (hss : ss ≤ MS) {st : List Value} (hst9 : st = av.reverse ++ .ref (G.1 + o) :: rest) (hrest : (rest.map fun v => v.category).sum ≤ 8) (hdg : decode M.2.1 pc = .ok (.invokevirtual index, 3))
    (kk : J G Γ cs ss (pc + 3) L (.long r :: rest) sv' vi' vl') : J G Γ cs ss pc L st sv vi vl := by
  refine j_callV B hC hc ho ht w4 w5 hn hd hcs hss hst9 hrest hdg ?_
  rintro _ _ _ _ ⟨rfl, rfl, rfl, rfl⟩
  exact kk
theorem j_cMJ (B : Base G Γ M d MC MS) {M' : MI} {d' n index o ci N : Nat} {host : String} {av : List Value} {T9 : u_T} {ty0 : Nat → FieldType} {r : Int64} {sv' : SV} {vi' : VI} {vl' : VL} (hC : Call G M' d' 0 0 (.ref (G.1 + o) :: av) sv vi vl (QJ r sv' vi' vl')) (hc : j_cls ci M'.1.cls T9 N ty0) (ho : Ob sv o ci) (hw : (M.1.cls, index, M'.1, host) ∈ j_nests) (w1 : Cond.code M'.1 M'.2.1 M'.2.2.1 M'.2.2.2 ∈ gtb) (w2 : Cond.initialized M'.1.cls ∈ gtb) (hdd : M'.1.cls ≠ "java/lang/invoke/MethodHandle" ∧ M'.1.cls ≠ "java/lang/invoke/VarHandle" ∧ (parseMethodDescriptor M'.1.desc).map (fun d => d.parameters.length) = some n) (hml' : M'.2.2.1 ≤ 45) (w4 : Cond.instanceMethod M'.1 ∈ gtb) (w5 : Cond.selects M'.1.cls M'.1 M'.1 ∈ gtb) (hn : av.length = n) (hd : d' + 1 ≤ d) (hcs : cs ≤ MC) (hss : ss ≤ MS) {st : List Value} (hst9 : st = av.reverse ++ .ref (G.1 + o) :: rest) (hrest : (rest.map fun v => v.category).sum ≤ 8) (hdg : decode M.2.1 pc = .ok (.invokevirtual index, 3))
    (kk : J G Γ cs ss (pc + 3) L (.long r :: rest) sv' vi' vl') : J G Γ cs ss pc L st sv vi vl := by
  refine j_callVM B hC hc ho hw w1 w2 hdd hml' w4 w5 hn hd hcs hss hst9 hrest hdg ?_
  rintro _ _ _ _ ⟨rfl, rfl, rfl, rfl⟩
  exact kk
theorem j_cSJ (B : Base G Γ M d MC MS) {M' : MI} {d' n index : Nat} {av : List Value} {r : Int64} {sv' : SV} {vi' : VI} {vl' : VL} (hC : Call G M' d' 0 0 av sv vi vl (QJ r sv' vi' vl')) (ht : j_to M.1.cls index M' n) (w4 : Cond.static M'.1 ∈ gtb) (hn : av.length = n) (hd : d' + 1 ≤ d) (hcs : cs ≤ MC) (hss : ss ≤ MS) {st : List Value} (hst9 : st = av.reverse ++ rest) (hrest : (rest.map fun v => v.category).sum ≤ 8) (hdg : decode M.2.1 pc = .ok (.invokestatic index, 3))
    (kk : J G Γ cs ss (pc + 3) L (.long r :: rest) sv' vi' vl') : J G Γ cs ss pc L st sv vi vl := by
  refine j_callS B hC ht w4 hn hd hcs hss hst9 hrest hdg ?_
  rintro _ _ _ _ ⟨rfl, rfl, rfl, rfl⟩
  exact kk
theorem j_cVN (B : Base G Γ M d MC MS) {M' : MI} {d' n index o ci N : Nat} {av : List Value} {T9 : u_T} {ty0 : Nat → FieldType} {r : Option Nat} {sv' : SV} {vi' : VI} {vl' : VL} (hC : Call G M' d' 0 0 (.ref (G.1 + o) :: av) sv vi vl (QN G r sv' vi' vl')) (hc : j_cls ci M'.1.cls T9 N ty0) (ho : Ob sv o ci) (ht : j_to M.1.cls index M' n) (w4 : Cond.instanceMethod M'.1 ∈ gtb) (w5 : Cond.selects M'.1.cls M'.1 M'.1 ∈ gtb) (hn : av.length = n) (hd : d' + 1 ≤ d) (hcs : cs ≤ MC) (hss : ss ≤ MS) {st : List Value} (hst9 : st = av.reverse ++ .ref (G.1 + o) :: rest) (hrest : (rest.map fun v => v.category).sum ≤ 8) (hdg : decode M.2.1 pc = .ok (.invokevirtual index, 3))
    (kk : J G Γ cs ss (pc + 3) L (va_rf (r.map fun q => G.1 + q) :: rest) sv' vi' vl') : J G Γ cs ss pc L st sv vi vl := by
  refine j_callV B hC hc ho ht w4 w5 hn hd hcs hss hst9 hrest hdg ?_
  rintro _ _ _ _ ⟨rfl, rfl, rfl, rfl⟩
  exact kk
theorem j_cMN (B : Base G Γ M d MC MS) {M' : MI} {d' n index o ci N : Nat} {host : String} {av : List Value} {T9 : u_T} {ty0 : Nat → FieldType} {r : Option Nat} {sv' : SV} {vi' : VI} {vl' : VL} (hC : Call G M' d' 0 0 (.ref (G.1 + o) :: av) sv vi vl (QN G r sv' vi' vl')) (hc : j_cls ci M'.1.cls T9 N ty0) (ho : Ob sv o ci) (hw : (M.1.cls, index, M'.1, host) ∈ j_nests) (w1 : Cond.code M'.1 M'.2.1 M'.2.2.1 M'.2.2.2 ∈ gtb) (w2 : Cond.initialized M'.1.cls ∈ gtb) (hdd : M'.1.cls ≠ "java/lang/invoke/MethodHandle" ∧ M'.1.cls ≠ "java/lang/invoke/VarHandle" ∧ (parseMethodDescriptor M'.1.desc).map (fun d => d.parameters.length) = some n) (hml' : M'.2.2.1 ≤ 45) (w4 : Cond.instanceMethod M'.1 ∈ gtb) (w5 : Cond.selects M'.1.cls M'.1 M'.1 ∈ gtb) (hn : av.length = n) (hd : d' + 1 ≤ d) (hcs : cs ≤ MC) (hss : ss ≤ MS) {st : List Value} (hst9 : st = av.reverse ++ .ref (G.1 + o) :: rest) (hrest : (rest.map fun v => v.category).sum ≤ 8) (hdg : decode M.2.1 pc = .ok (.invokevirtual index, 3))
    (kk : J G Γ cs ss (pc + 3) L (va_rf (r.map fun q => G.1 + q) :: rest) sv' vi' vl') : J G Γ cs ss pc L st sv vi vl := by
  refine j_callVM B hC hc ho hw w1 w2 hdd hml' w4 w5 hn hd hcs hss hst9 hrest hdg ?_
  rintro _ _ _ _ ⟨rfl, rfl, rfl, rfl⟩
  exact kk
theorem j_cSN (B : Base G Γ M d MC MS) {M' : MI} {d' n index : Nat} {av : List Value} {r : Option Nat} {sv' : SV} {vi' : VI} {vl' : VL} (hC : Call G M' d' 0 0 av sv vi vl (QN G r sv' vi' vl')) (ht : j_to M.1.cls index M' n) (w4 : Cond.static M'.1 ∈ gtb) (hn : av.length = n) (hd : d' + 1 ≤ d) (hcs : cs ≤ MC) (hss : ss ≤ MS) {st : List Value} (hst9 : st = av.reverse ++ rest) (hrest : (rest.map fun v => v.category).sum ≤ 8) (hdg : decode M.2.1 pc = .ok (.invokestatic index, 3))
    (kk : J G Γ cs ss (pc + 3) L (va_rf (r.map fun q => G.1 + q) :: rest) sv' vi' vl') : J G Γ cs ss pc L st sv vi vl := by
  refine j_callS B hC ht w4 hn hd hcs hss hst9 hrest hdg ?_
  rintro _ _ _ _ ⟨rfl, rfl, rfl, rfl⟩
  exact kk
theorem j_aloadN (B : Base G Γ M d MC MS) {i : Nat} (hdg : decode M.2.1 pc = .ok (.aload i, 2)) (q : Nat) (hq : L[q]? = some (i, .null)) (k : J G Γ cs ss (pc + 2) L (.null :: rest) sv vi vl) : J G Γ cs ss pc L rest sv vi vl := by
  obtain ⟨p, e, R, s, m, args, below, meth, c, Qw⟩ := Γ
  intro H locs ls hz hP hS hl
  exact lv_aloadN B.1 B.2.1 hdg (lv_at hl q hq) (k H locs ls hz hP hS hl)
end JK
/-! shapes of objects of which there are several -/
def isDust (sv : SV) (o : Nat) : Prop := Ob sv o 3 ∧ sv.2.2.2 o 0 = (o + 1) + 1 ∧ sv.2.2.2 o 1 = (o + 2) + 1 ∧ Ar sv (o + 1) 11 12 ∧ Ar sv (o + 2) 11 12
def isLaw (sv : SV) (o : Nat) : Prop := Ob sv o 5 ∧ sv.2.2.2 o 0 = (o + 1) + 1 ∧ sv.2.2.2 o 3 = (o + 2) + 1 ∧ sv.2.2.2 o 4 = (o + 3) + 1 ∧ Ar sv (o + 1) 11 121 ∧ Ar sv (o + 2) 11 6 ∧ Ar sv (o + 3) 11 121
def isShelf (sv : SV) (o : Nat) : Prop := Ob sv o 6 ∧ sv.2.2.2 o 4 = (o + 1) + 1 ∧ Ar sv (o + 1) 20 60
def isSill (sv : SV) (o : Nat) : Prop := Ob sv o 7 ∧ sv.2.2.2 o 0 = 5 + 1 ∧ sv.2.2.2 o 1 = (o + 1) + 1 ∧ sv.2.2.2 o 2 = (o + 4) + 1 ∧ Ar sv (o + 4) 12 780 ∧ isDust sv (o + 1)
def WF0 (sv : SV) (ns : Nat) : Prop := (ns ≤ 5) ∧ (sv.1 = 98 + 5 * ns) ∧ (Ob sv 0 9) ∧ (Ar sv 1 23 5) ∧ (Ar sv 2 11 6) ∧ (Ob sv 3 8) ∧ (Ar sv 4 11 120) ∧ (Ob sv 5 5) ∧ (Ar sv 6 11 121) ∧ (Ar sv 7 11 6) ∧ (Ar sv 8 11 121) ∧ (Ob sv 9 5) ∧ (Ar sv 10 11 121) ∧ (Ar sv 11 11 6) ∧ (Ar sv 12 11 121) ∧ (Ob sv 13 3) ∧ (Ar sv 14 11 12) ∧ (Ar sv 15 11 12) ∧ (Ob sv 16 2) ∧ (Ar sv 17 20 820)
def WF1 (sv : SV) (ns : Nat) : Prop := (Ar sv 18 11 13) ∧ (Ar sv 19 11 13) ∧ (Ar sv 20 11 130) ∧ (Ar sv 21 11 130) ∧ (Ar sv 22 11 169) ∧ (Ar sv 23 11 5) ∧ (Ob sv 24 4) ∧ (Ar sv 25 21 5) ∧ (Ar sv 26 11 5) ∧ (Ob sv 27 3) ∧ (Ar sv 28 11 12) ∧ (Ar sv 29 11 12) ∧ (Ob sv 30 3) ∧ (Ar sv 31 11 12) ∧ (Ar sv 32 11 12) ∧ (Ob sv 33 3) ∧ (Ar sv 34 11 12) ∧ (Ar sv 35 11 12) ∧ (Ob sv 36 3) ∧ (Ar sv 37 11 12)
def WF2 (sv : SV) (ns : Nat) : Prop := (Ar sv 38 11 12) ∧ (Ob sv 39 3) ∧ (Ar sv 40 11 12) ∧ (Ar sv 41 11 12) ∧ (Ob sv 42 1) ∧ (Ar sv 43 11 40) ∧ (Ar sv 44 11 40) ∧ (Ar sv 45 11 40) ∧ (Ar sv 46 11 40) ∧ (Ob sv 47 0) ∧ (Ar sv 48 11 50) ∧ (Ar sv 49 11 24) ∧ (Ar sv 50 22 6) ∧ (Ob sv 51 6) ∧ (Ar sv 52 20 60) ∧ (Ob sv 53 6) ∧ (Ar sv 54 20 60) ∧ (Ob sv 55 6) ∧ (Ar sv 56 20 60) ∧ (Ob sv 57 6)
def WF3 (sv : SV) (ns : Nat) : Prop := (Ar sv 58 20 60) ∧ (Ob sv 59 6) ∧ (Ar sv 60 20 60) ∧ (Ob sv 61 6) ∧ (Ar sv 62 20 60) ∧ (Ob sv 63 10) ∧ (Ar sv 64 11 5) ∧ (Ar sv 65 11 5) ∧ (Ar sv 66 11 6) ∧ (Ar sv 67 11 5) ∧ (Ar sv 68 11 60) ∧ (Ar sv 69 11 60) ∧ (Ar sv 70 11 40) ∧ (Ar sv 71 11 40) ∧ (Ar sv 72 11 40) ∧ (Ar sv 73 11 40) ∧ (Ar sv 74 12 120) ∧ (Ar sv 75 12 260) ∧ (Ar sv 76 11 260) ∧ (Ar sv 77 11 2)
def WF4 (sv : SV) (ns : Nat) : Prop := (Ar sv 78 13 122) ∧ (Ar sv 79 13 122) ∧ (Ar sv 80 11 6) ∧ (Ar sv 81 11 130) ∧ (Ar sv 82 11 13) ∧ (Ar sv 83 11 13) ∧ (Ar sv 84 20 10000) ∧ (Ar sv 85 11 600) ∧ (Ar sv 86 11 169) ∧ (Ar sv 87 11 5) ∧ (Ar sv 88 11 5) ∧ (Ar sv 89 11 60) ∧ (Ar sv 90 11 60) ∧ (Ar sv 91 11 5) ∧ (Ar sv 92 11 50) ∧ (Ar sv 93 11 24) ∧ (Ar sv 94 11 6) ∧ (Ar sv 95 11 6) ∧ (Ar sv 96 20 360) ∧ (Ar sv 97 20 60)
def WF5 (sv : SV) (ns : Nat) : Prop := (sv.2.2.2 0 0 = 1 + 1) ∧ (sv.2.2.2 0 2 = 2 + 1) ∧ (sv.2.2.2 0 3 = 3 + 1) ∧ (sv.2.2.2 3 0 = 4 + 1) ∧ (sv.2.2.2 0 4 = 5 + 1) ∧ (sv.2.2.2 5 0 = 6 + 1) ∧ (sv.2.2.2 5 3 = 7 + 1) ∧ (sv.2.2.2 5 4 = 8 + 1) ∧ (sv.2.2.2 0 5 = 9 + 1) ∧ (sv.2.2.2 9 0 = 10 + 1) ∧ (sv.2.2.2 9 3 = 11 + 1) ∧ (sv.2.2.2 9 4 = 12 + 1) ∧ (sv.2.2.2 0 6 = 13 + 1) ∧ (sv.2.2.2 0 7 = 16 + 1) ∧ (sv.2.2.2 16 0 = 17 + 1) ∧ (sv.2.2.2 16 1 = 18 + 1) ∧ (sv.2.2.2 16 2 = 19 + 1) ∧ (sv.2.2.2 16 3 = 20 + 1) ∧ (sv.2.2.2 16 4 = 21 + 1) ∧ (sv.2.2.2 0 8 = 22 + 1)
def WF6 (sv : SV) (ns : Nat) : Prop := (sv.2.2.2 0 9 = 23 + 1) ∧ (sv.2.2.2 0 10 = 24 + 1) ∧ (sv.2.2.2 24 0 = 25 + 1) ∧ (sv.2.2.2 24 1 = 26 + 1) ∧ (sv.2.2.2 25 0 = 27 + 1) ∧ (sv.2.2.2 25 1 = 30 + 1) ∧ (sv.2.2.2 25 2 = 33 + 1) ∧ (sv.2.2.2 25 3 = 36 + 1) ∧ (sv.2.2.2 25 4 = 39 + 1) ∧ (sv.2.2.2 13 0 = 14 + 1) ∧ (sv.2.2.2 13 1 = 15 + 1) ∧ (sv.2.2.2 27 0 = 28 + 1) ∧ (sv.2.2.2 27 1 = 29 + 1) ∧ (sv.2.2.2 30 0 = 31 + 1) ∧ (sv.2.2.2 30 1 = 32 + 1) ∧ (sv.2.2.2 33 0 = 34 + 1) ∧ (sv.2.2.2 33 1 = 35 + 1) ∧ (sv.2.2.2 36 0 = 37 + 1) ∧ (sv.2.2.2 36 1 = 38 + 1) ∧ (sv.2.2.2 39 0 = 40 + 1)
def WF7 (sv : SV) (ns : Nat) : Prop := (sv.2.2.2 39 1 = 41 + 1) ∧ (sv.2.2.2 0 11 = 42 + 1) ∧ (sv.2.2.2 42 0 = 43 + 1) ∧ (sv.2.2.2 42 1 = 44 + 1) ∧ (sv.2.2.2 42 2 = 45 + 1) ∧ (sv.2.2.2 42 3 = 46 + 1) ∧ (sv.2.2.2 0 12 = 47 + 1) ∧ (sv.2.2.2 47 0 = 48 + 1) ∧ (sv.2.2.2 47 2 = 49 + 1) ∧ (sv.2.2.2 0 13 = 50 + 1) ∧ (sv.2.2.2 51 4 = 52 + 1) ∧ (sv.2.2.2 50 0 = 51 + 1) ∧ (sv.2.2.2 53 4 = 54 + 1) ∧ (sv.2.2.2 50 1 = 53 + 1) ∧ (sv.2.2.2 55 4 = 56 + 1) ∧ (sv.2.2.2 50 2 = 55 + 1) ∧ (sv.2.2.2 57 4 = 58 + 1) ∧ (sv.2.2.2 50 3 = 57 + 1) ∧ (sv.2.2.2 59 4 = 60 + 1) ∧ (sv.2.2.2 50 4 = 59 + 1)
def WF8 (sv : SV) (ns : Nat) : Prop := (sv.2.2.2 61 4 = 62 + 1) ∧ (sv.2.2.2 50 5 = 61 + 1) ∧ (sv.2.2.2 63 2 = 64 + 1) ∧ (sv.2.2.2 63 3 = 65 + 1) ∧ (sv.2.2.2 63 4 = 66 + 1) ∧ (sv.2.2.2 63 6 = 67 + 1) ∧ (sv.2.2.2 63 7 = 68 + 1) ∧ (sv.2.2.2 63 8 = 69 + 1) ∧ (sv.2.2.2 63 11 = 70 + 1) ∧ (sv.2.2.2 63 12 = 71 + 1) ∧ (sv.2.2.2 63 13 = 72 + 1) ∧ (sv.2.2.2 63 14 = 73 + 1) ∧ (sv.2.2.2 63 15 = 74 + 1) ∧ (sv.2.2.2 63 21 = 75 + 1) ∧ (sv.2.2.2 63 22 = 76 + 1) ∧ (sv.2.2.2 63 23 = 77 + 1) ∧ (sv.2.2.2 63 24 = 78 + 1) ∧ (sv.2.2.2 63 25 = 79 + 1) ∧ (sv.2.2.2 63 26 = 80 + 1) ∧ (sv.2.2.2 63 27 = 81 + 1)
def WF9 (sv : SV) (ns : Nat) : Prop := (sv.2.2.2 63 31 = 82 + 1) ∧ (sv.2.2.2 63 32 = 83 + 1) ∧ (sv.2.2.2 63 34 = 84 + 1) ∧ (sv.2.2.2 63 35 = 85 + 1) ∧ (sv.2.2.2 63 37 = 86 + 1) ∧ (sv.2.2.2 63 38 = 87 + 1) ∧ (sv.2.2.2 63 41 = 88 + 1) ∧ (sv.2.2.2 63 42 = 89 + 1) ∧ (sv.2.2.2 63 43 = 90 + 1) ∧ (sv.2.2.2 63 44 = 91 + 1) ∧ (sv.2.2.2 63 46 = 92 + 1) ∧ (sv.2.2.2 63 48 = 93 + 1) ∧ (sv.2.2.2 63 49 = 94 + 1) ∧ (sv.2.2.2 63 50 = 95 + 1) ∧ (sv.2.2.2 63 51 = 96 + 1) ∧ (sv.2.2.2 63 52 = 97 + 1) ∧ (∀ i, i < ns → sv.2.2.2 1 i = (98 + 5 * i) + 1) ∧ (∀ i, i < ns → isSill sv (98 + 5 * i)) ∧ (∀ i, i < 6 → sv.2.2.2 50 i = (51 + 2 * i) + 1 ∧ isShelf sv (51 + 2 * i)) ∧ (∀ i, i < 5 → sv.2.2.2 25 i = (27 + 3 * i) + 1 ∧ isDust sv (27 + 3 * i))
/-- what lies where, once both objects are made -/
def WF (sv : SV) (ns : Nat) : Prop := WF0 sv ns ∧ WF1 sv ns ∧ WF2 sv ns ∧ WF3 sv ns ∧ WF4 sv ns ∧ WF5 sv ns ∧ WF6 sv ns ∧ WF7 sv ns ∧ WF8 sv ns ∧ WF9 sv ns
theorem wf_0 {sv : SV} {ns : Nat} (h : WF sv ns) : ns ≤ 5 := (h.1).1
theorem wf_1 {sv : SV} {ns : Nat} (h : WF sv ns) : sv.1 = 98 + 5 * ns := (h.1).2.1
theorem wf_2 {sv : SV} {ns : Nat} (h : WF sv ns) : Ob sv 0 9 := (h.1).2.2.1
theorem wf_3 {sv : SV} {ns : Nat} (h : WF sv ns) : Ar sv 1 23 5 := (h.1).2.2.2.1
theorem wf_4 {sv : SV} {ns : Nat} (h : WF sv ns) : Ar sv 2 11 6 := (h.1).2.2.2.2.1
theorem wf_5 {sv : SV} {ns : Nat} (h : WF sv ns) : Ob sv 3 8 := (h.1).2.2.2.2.2.1
theorem wf_6 {sv : SV} {ns : Nat} (h : WF sv ns) : Ar sv 4 11 120 := (h.1).2.2.2.2.2.2.1
theorem wf_7 {sv : SV} {ns : Nat} (h : WF sv ns) : Ob sv 5 5 := (h.1).2.2.2.2.2.2.2.1
theorem wf_8 {sv : SV} {ns : Nat} (h : WF sv ns) : Ar sv 6 11 121 := (h.1).2.2.2.2.2.2.2.2.1
theorem wf_9 {sv : SV} {ns : Nat} (h : WF sv ns) : Ar sv 7 11 6 := (h.1).2.2.2.2.2.2.2.2.2.1
theorem wf_10 {sv : SV} {ns : Nat} (h : WF sv ns) : Ar sv 8 11 121 := (h.1).2.2.2.2.2.2.2.2.2.2.1
theorem wf_11 {sv : SV} {ns : Nat} (h : WF sv ns) : Ob sv 9 5 := (h.1).2.2.2.2.2.2.2.2.2.2.2.1
theorem wf_12 {sv : SV} {ns : Nat} (h : WF sv ns) : Ar sv 10 11 121 := (h.1).2.2.2.2.2.2.2.2.2.2.2.2.1
theorem wf_13 {sv : SV} {ns : Nat} (h : WF sv ns) : Ar sv 11 11 6 := (h.1).2.2.2.2.2.2.2.2.2.2.2.2.2.1
theorem wf_14 {sv : SV} {ns : Nat} (h : WF sv ns) : Ar sv 12 11 121 := (h.1).2.2.2.2.2.2.2.2.2.2.2.2.2.2.1
theorem wf_15 {sv : SV} {ns : Nat} (h : WF sv ns) : Ob sv 13 3 := (h.1).2.2.2.2.2.2.2.2.2.2.2.2.2.2.2.1
theorem wf_16 {sv : SV} {ns : Nat} (h : WF sv ns) : Ar sv 14 11 12 := (h.1).2.2.2.2.2.2.2.2.2.2.2.2.2.2.2.2.1
theorem wf_17 {sv : SV} {ns : Nat} (h : WF sv ns) : Ar sv 15 11 12 := (h.1).2.2.2.2.2.2.2.2.2.2.2.2.2.2.2.2.2.1
theorem wf_18 {sv : SV} {ns : Nat} (h : WF sv ns) : Ob sv 16 2 := (h.1).2.2.2.2.2.2.2.2.2.2.2.2.2.2.2.2.2.2.1
theorem wf_19 {sv : SV} {ns : Nat} (h : WF sv ns) : Ar sv 17 20 820 := (h.1).2.2.2.2.2.2.2.2.2.2.2.2.2.2.2.2.2.2.2
theorem wf_20 {sv : SV} {ns : Nat} (h : WF sv ns) : Ar sv 18 11 13 := (h.2.1).1
theorem wf_21 {sv : SV} {ns : Nat} (h : WF sv ns) : Ar sv 19 11 13 := (h.2.1).2.1
theorem wf_22 {sv : SV} {ns : Nat} (h : WF sv ns) : Ar sv 20 11 130 := (h.2.1).2.2.1
theorem wf_23 {sv : SV} {ns : Nat} (h : WF sv ns) : Ar sv 21 11 130 := (h.2.1).2.2.2.1
theorem wf_24 {sv : SV} {ns : Nat} (h : WF sv ns) : Ar sv 22 11 169 := (h.2.1).2.2.2.2.1
theorem wf_25 {sv : SV} {ns : Nat} (h : WF sv ns) : Ar sv 23 11 5 := (h.2.1).2.2.2.2.2.1
theorem wf_26 {sv : SV} {ns : Nat} (h : WF sv ns) : Ob sv 24 4 := (h.2.1).2.2.2.2.2.2.1
theorem wf_27 {sv : SV} {ns : Nat} (h : WF sv ns) : Ar sv 25 21 5 := (h.2.1).2.2.2.2.2.2.2.1
theorem wf_28 {sv : SV} {ns : Nat} (h : WF sv ns) : Ar sv 26 11 5 := (h.2.1).2.2.2.2.2.2.2.2.1
theorem wf_29 {sv : SV} {ns : Nat} (h : WF sv ns) : Ob sv 27 3 := (h.2.1).2.2.2.2.2.2.2.2.2.1
theorem wf_30 {sv : SV} {ns : Nat} (h : WF sv ns) : Ar sv 28 11 12 := (h.2.1).2.2.2.2.2.2.2.2.2.2.1
theorem wf_31 {sv : SV} {ns : Nat} (h : WF sv ns) : Ar sv 29 11 12 := (h.2.1).2.2.2.2.2.2.2.2.2.2.2.1
theorem wf_32 {sv : SV} {ns : Nat} (h : WF sv ns) : Ob sv 30 3 := (h.2.1).2.2.2.2.2.2.2.2.2.2.2.2.1
theorem wf_33 {sv : SV} {ns : Nat} (h : WF sv ns) : Ar sv 31 11 12 := (h.2.1).2.2.2.2.2.2.2.2.2.2.2.2.2.1
theorem wf_34 {sv : SV} {ns : Nat} (h : WF sv ns) : Ar sv 32 11 12 := (h.2.1).2.2.2.2.2.2.2.2.2.2.2.2.2.2.1
theorem wf_35 {sv : SV} {ns : Nat} (h : WF sv ns) : Ob sv 33 3 := (h.2.1).2.2.2.2.2.2.2.2.2.2.2.2.2.2.2.1
theorem wf_36 {sv : SV} {ns : Nat} (h : WF sv ns) : Ar sv 34 11 12 := (h.2.1).2.2.2.2.2.2.2.2.2.2.2.2.2.2.2.2.1
theorem wf_37 {sv : SV} {ns : Nat} (h : WF sv ns) : Ar sv 35 11 12 := (h.2.1).2.2.2.2.2.2.2.2.2.2.2.2.2.2.2.2.2.1
theorem wf_38 {sv : SV} {ns : Nat} (h : WF sv ns) : Ob sv 36 3 := (h.2.1).2.2.2.2.2.2.2.2.2.2.2.2.2.2.2.2.2.2.1
theorem wf_39 {sv : SV} {ns : Nat} (h : WF sv ns) : Ar sv 37 11 12 := (h.2.1).2.2.2.2.2.2.2.2.2.2.2.2.2.2.2.2.2.2.2
theorem wf_40 {sv : SV} {ns : Nat} (h : WF sv ns) : Ar sv 38 11 12 := (h.2.2.1).1
theorem wf_41 {sv : SV} {ns : Nat} (h : WF sv ns) : Ob sv 39 3 := (h.2.2.1).2.1
theorem wf_42 {sv : SV} {ns : Nat} (h : WF sv ns) : Ar sv 40 11 12 := (h.2.2.1).2.2.1
theorem wf_43 {sv : SV} {ns : Nat} (h : WF sv ns) : Ar sv 41 11 12 := (h.2.2.1).2.2.2.1
theorem wf_44 {sv : SV} {ns : Nat} (h : WF sv ns) : Ob sv 42 1 := (h.2.2.1).2.2.2.2.1
theorem wf_45 {sv : SV} {ns : Nat} (h : WF sv ns) : Ar sv 43 11 40 := (h.2.2.1).2.2.2.2.2.1
theorem wf_46 {sv : SV} {ns : Nat} (h : WF sv ns) : Ar sv 44 11 40 := (h.2.2.1).2.2.2.2.2.2.1
theorem wf_47 {sv : SV} {ns : Nat} (h : WF sv ns) : Ar sv 45 11 40 := (h.2.2.1).2.2.2.2.2.2.2.1
theorem wf_48 {sv : SV} {ns : Nat} (h : WF sv ns) : Ar sv 46 11 40 := (h.2.2.1).2.2.2.2.2.2.2.2.1
theorem wf_49 {sv : SV} {ns : Nat} (h : WF sv ns) : Ob sv 47 0 := (h.2.2.1).2.2.2.2.2.2.2.2.2.1
theorem wf_50 {sv : SV} {ns : Nat} (h : WF sv ns) : Ar sv 48 11 50 := (h.2.2.1).2.2.2.2.2.2.2.2.2.2.1
theorem wf_51 {sv : SV} {ns : Nat} (h : WF sv ns) : Ar sv 49 11 24 := (h.2.2.1).2.2.2.2.2.2.2.2.2.2.2.1
theorem wf_52 {sv : SV} {ns : Nat} (h : WF sv ns) : Ar sv 50 22 6 := (h.2.2.1).2.2.2.2.2.2.2.2.2.2.2.2.1
theorem wf_53 {sv : SV} {ns : Nat} (h : WF sv ns) : Ob sv 51 6 := (h.2.2.1).2.2.2.2.2.2.2.2.2.2.2.2.2.1
theorem wf_54 {sv : SV} {ns : Nat} (h : WF sv ns) : Ar sv 52 20 60 := (h.2.2.1).2.2.2.2.2.2.2.2.2.2.2.2.2.2.1
theorem wf_55 {sv : SV} {ns : Nat} (h : WF sv ns) : Ob sv 53 6 := (h.2.2.1).2.2.2.2.2.2.2.2.2.2.2.2.2.2.2.1
theorem wf_56 {sv : SV} {ns : Nat} (h : WF sv ns) : Ar sv 54 20 60 := (h.2.2.1).2.2.2.2.2.2.2.2.2.2.2.2.2.2.2.2.1
theorem wf_57 {sv : SV} {ns : Nat} (h : WF sv ns) : Ob sv 55 6 := (h.2.2.1).2.2.2.2.2.2.2.2.2.2.2.2.2.2.2.2.2.1
theorem wf_58 {sv : SV} {ns : Nat} (h : WF sv ns) : Ar sv 56 20 60 := (h.2.2.1).2.2.2.2.2.2.2.2.2.2.2.2.2.2.2.2.2.2.1
theorem wf_59 {sv : SV} {ns : Nat} (h : WF sv ns) : Ob sv 57 6 := (h.2.2.1).2.2.2.2.2.2.2.2.2.2.2.2.2.2.2.2.2.2.2
theorem wf_60 {sv : SV} {ns : Nat} (h : WF sv ns) : Ar sv 58 20 60 := (h.2.2.2.1).1
theorem wf_61 {sv : SV} {ns : Nat} (h : WF sv ns) : Ob sv 59 6 := (h.2.2.2.1).2.1
theorem wf_62 {sv : SV} {ns : Nat} (h : WF sv ns) : Ar sv 60 20 60 := (h.2.2.2.1).2.2.1
theorem wf_63 {sv : SV} {ns : Nat} (h : WF sv ns) : Ob sv 61 6 := (h.2.2.2.1).2.2.2.1
theorem wf_64 {sv : SV} {ns : Nat} (h : WF sv ns) : Ar sv 62 20 60 := (h.2.2.2.1).2.2.2.2.1
theorem wf_65 {sv : SV} {ns : Nat} (h : WF sv ns) : Ob sv 63 10 := (h.2.2.2.1).2.2.2.2.2.1
theorem wf_66 {sv : SV} {ns : Nat} (h : WF sv ns) : Ar sv 64 11 5 := (h.2.2.2.1).2.2.2.2.2.2.1
theorem wf_67 {sv : SV} {ns : Nat} (h : WF sv ns) : Ar sv 65 11 5 := (h.2.2.2.1).2.2.2.2.2.2.2.1
theorem wf_68 {sv : SV} {ns : Nat} (h : WF sv ns) : Ar sv 66 11 6 := (h.2.2.2.1).2.2.2.2.2.2.2.2.1
theorem wf_69 {sv : SV} {ns : Nat} (h : WF sv ns) : Ar sv 67 11 5 := (h.2.2.2.1).2.2.2.2.2.2.2.2.2.1
theorem wf_70 {sv : SV} {ns : Nat} (h : WF sv ns) : Ar sv 68 11 60 := (h.2.2.2.1).2.2.2.2.2.2.2.2.2.2.1
theorem wf_71 {sv : SV} {ns : Nat} (h : WF sv ns) : Ar sv 69 11 60 := (h.2.2.2.1).2.2.2.2.2.2.2.2.2.2.2.1
theorem wf_72 {sv : SV} {ns : Nat} (h : WF sv ns) : Ar sv 70 11 40 := (h.2.2.2.1).2.2.2.2.2.2.2.2.2.2.2.2.1
theorem wf_73 {sv : SV} {ns : Nat} (h : WF sv ns) : Ar sv 71 11 40 := (h.2.2.2.1).2.2.2.2.2.2.2.2.2.2.2.2.2.1
theorem wf_74 {sv : SV} {ns : Nat} (h : WF sv ns) : Ar sv 72 11 40 := (h.2.2.2.1).2.2.2.2.2.2.2.2.2.2.2.2.2.2.1
theorem wf_75 {sv : SV} {ns : Nat} (h : WF sv ns) : Ar sv 73 11 40 := (h.2.2.2.1).2.2.2.2.2.2.2.2.2.2.2.2.2.2.2.1
theorem wf_76 {sv : SV} {ns : Nat} (h : WF sv ns) : Ar sv 74 12 120 := (h.2.2.2.1).2.2.2.2.2.2.2.2.2.2.2.2.2.2.2.2.1
theorem wf_77 {sv : SV} {ns : Nat} (h : WF sv ns) : Ar sv 75 12 260 := (h.2.2.2.1).2.2.2.2.2.2.2.2.2.2.2.2.2.2.2.2.2.1
theorem wf_78 {sv : SV} {ns : Nat} (h : WF sv ns) : Ar sv 76 11 260 := (h.2.2.2.1).2.2.2.2.2.2.2.2.2.2.2.2.2.2.2.2.2.2.1
theorem wf_79 {sv : SV} {ns : Nat} (h : WF sv ns) : Ar sv 77 11 2 := (h.2.2.2.1).2.2.2.2.2.2.2.2.2.2.2.2.2.2.2.2.2.2.2
theorem wf_80 {sv : SV} {ns : Nat} (h : WF sv ns) : Ar sv 78 13 122 := (h.2.2.2.2.1).1
theorem wf_81 {sv : SV} {ns : Nat} (h : WF sv ns) : Ar sv 79 13 122 := (h.2.2.2.2.1).2.1
theorem wf_82 {sv : SV} {ns : Nat} (h : WF sv ns) : Ar sv 80 11 6 := (h.2.2.2.2.1).2.2.1
theorem wf_83 {sv : SV} {ns : Nat} (h : WF sv ns) : Ar sv 81 11 130 := (h.2.2.2.2.1).2.2.2.1
theorem wf_84 {sv : SV} {ns : Nat} (h : WF sv ns) : Ar sv 82 11 13 := (h.2.2.2.2.1).2.2.2.2.1
theorem wf_85 {sv : SV} {ns : Nat} (h : WF sv ns) : Ar sv 83 11 13 := (h.2.2.2.2.1).2.2.2.2.2.1
theorem wf_86 {sv : SV} {ns : Nat} (h : WF sv ns) : Ar sv 84 20 10000 := (h.2.2.2.2.1).2.2.2.2.2.2.1
theorem wf_87 {sv : SV} {ns : Nat} (h : WF sv ns) : Ar sv 85 11 600 := (h.2.2.2.2.1).2.2.2.2.2.2.2.1
theorem wf_88 {sv : SV} {ns : Nat} (h : WF sv ns) : Ar sv 86 11 169 := (h.2.2.2.2.1).2.2.2.2.2.2.2.2.1
theorem wf_89 {sv : SV} {ns : Nat} (h : WF sv ns) : Ar sv 87 11 5 := (h.2.2.2.2.1).2.2.2.2.2.2.2.2.2.1
theorem wf_90 {sv : SV} {ns : Nat} (h : WF sv ns) : Ar sv 88 11 5 := (h.2.2.2.2.1).2.2.2.2.2.2.2.2.2.2.1
theorem wf_91 {sv : SV} {ns : Nat} (h : WF sv ns) : Ar sv 89 11 60 := (h.2.2.2.2.1).2.2.2.2.2.2.2.2.2.2.2.1
theorem wf_92 {sv : SV} {ns : Nat} (h : WF sv ns) : Ar sv 90 11 60 := (h.2.2.2.2.1).2.2.2.2.2.2.2.2.2.2.2.2.1
theorem wf_93 {sv : SV} {ns : Nat} (h : WF sv ns) : Ar sv 91 11 5 := (h.2.2.2.2.1).2.2.2.2.2.2.2.2.2.2.2.2.2.1
theorem wf_94 {sv : SV} {ns : Nat} (h : WF sv ns) : Ar sv 92 11 50 := (h.2.2.2.2.1).2.2.2.2.2.2.2.2.2.2.2.2.2.2.1
theorem wf_95 {sv : SV} {ns : Nat} (h : WF sv ns) : Ar sv 93 11 24 := (h.2.2.2.2.1).2.2.2.2.2.2.2.2.2.2.2.2.2.2.2.1
theorem wf_96 {sv : SV} {ns : Nat} (h : WF sv ns) : Ar sv 94 11 6 := (h.2.2.2.2.1).2.2.2.2.2.2.2.2.2.2.2.2.2.2.2.2.1
theorem wf_97 {sv : SV} {ns : Nat} (h : WF sv ns) : Ar sv 95 11 6 := (h.2.2.2.2.1).2.2.2.2.2.2.2.2.2.2.2.2.2.2.2.2.2.1
theorem wf_98 {sv : SV} {ns : Nat} (h : WF sv ns) : Ar sv 96 20 360 := (h.2.2.2.2.1).2.2.2.2.2.2.2.2.2.2.2.2.2.2.2.2.2.2.1
theorem wf_99 {sv : SV} {ns : Nat} (h : WF sv ns) : Ar sv 97 20 60 := (h.2.2.2.2.1).2.2.2.2.2.2.2.2.2.2.2.2.2.2.2.2.2.2.2
theorem wf_100 {sv : SV} {ns : Nat} (h : WF sv ns) : sv.2.2.2 0 0 = 1 + 1 := (h.2.2.2.2.2.1).1
theorem wf_101 {sv : SV} {ns : Nat} (h : WF sv ns) : sv.2.2.2 0 2 = 2 + 1 := (h.2.2.2.2.2.1).2.1
theorem wf_102 {sv : SV} {ns : Nat} (h : WF sv ns) : sv.2.2.2 0 3 = 3 + 1 := (h.2.2.2.2.2.1).2.2.1
theorem wf_103 {sv : SV} {ns : Nat} (h : WF sv ns) : sv.2.2.2 3 0 = 4 + 1 := (h.2.2.2.2.2.1).2.2.2.1
theorem wf_104 {sv : SV} {ns : Nat} (h : WF sv ns) : sv.2.2.2 0 4 = 5 + 1 := (h.2.2.2.2.2.1).2.2.2.2.1
theorem wf_105 {sv : SV} {ns : Nat} (h : WF sv ns) : sv.2.2.2 5 0 = 6 + 1 := (h.2.2.2.2.2.1).2.2.2.2.2.1
theorem wf_106 {sv : SV} {ns : Nat} (h : WF sv ns) : sv.2.2.2 5 3 = 7 + 1 := (h.2.2.2.2.2.1).2.2.2.2.2.2.1
theorem wf_107 {sv : SV} {ns : Nat} (h : WF sv ns) : sv.2.2.2 5 4 = 8 + 1 := (h.2.2.2.2.2.1).2.2.2.2.2.2.2.1
theorem wf_108 {sv : SV} {ns : Nat} (h : WF sv ns) : sv.2.2.2 0 5 = 9 + 1 := (h.2.2.2.2.2.1).2.2.2.2.2.2.2.2.1
theorem wf_109 {sv : SV} {ns : Nat} (h : WF sv ns) : sv.2.2.2 9 0 = 10 + 1 := (h.2.2.2.2.2.1).2.2.2.2.2.2.2.2.2.1
theorem wf_110 {sv : SV} {ns : Nat} (h : WF sv ns) : sv.2.2.2 9 3 = 11 + 1 := (h.2.2.2.2.2.1).2.2.2.2.2.2.2.2.2.2.1
theorem wf_111 {sv : SV} {ns : Nat} (h : WF sv ns) : sv.2.2.2 9 4 = 12 + 1 := (h.2.2.2.2.2.1).2.2.2.2.2.2.2.2.2.2.2.1
theorem wf_112 {sv : SV} {ns : Nat} (h : WF sv ns) : sv.2.2.2 0 6 = 13 + 1 := (h.2.2.2.2.2.1).2.2.2.2.2.2.2.2.2.2.2.2.1
theorem wf_113 {sv : SV} {ns : Nat} (h : WF sv ns) : sv.2.2.2 0 7 = 16 + 1 := (h.2.2.2.2.2.1).2.2.2.2.2.2.2.2.2.2.2.2.2.1
theorem wf_114 {sv : SV} {ns : Nat} (h : WF sv ns) : sv.2.2.2 16 0 = 17 + 1 := (h.2.2.2.2.2.1).2.2.2.2.2.2.2.2.2.2.2.2.2.2.1
theorem wf_115 {sv : SV} {ns : Nat} (h : WF sv ns) : sv.2.2.2 16 1 = 18 + 1 := (h.2.2.2.2.2.1).2.2.2.2.2.2.2.2.2.2.2.2.2.2.2.1
theorem wf_116 {sv : SV} {ns : Nat} (h : WF sv ns) : sv.2.2.2 16 2 = 19 + 1 := (h.2.2.2.2.2.1).2.2.2.2.2.2.2.2.2.2.2.2.2.2.2.2.1
theorem wf_117 {sv : SV} {ns : Nat} (h : WF sv ns) : sv.2.2.2 16 3 = 20 + 1 := (h.2.2.2.2.2.1).2.2.2.2.2.2.2.2.2.2.2.2.2.2.2.2.2.1
theorem wf_118 {sv : SV} {ns : Nat} (h : WF sv ns) : sv.2.2.2 16 4 = 21 + 1 := (h.2.2.2.2.2.1).2.2.2.2.2.2.2.2.2.2.2.2.2.2.2.2.2.2.1
theorem wf_119 {sv : SV} {ns : Nat} (h : WF sv ns) : sv.2.2.2 0 8 = 22 + 1 := (h.2.2.2.2.2.1).2.2.2.2.2.2.2.2.2.2.2.2.2.2.2.2.2.2.2
theorem wf_120 {sv : SV} {ns : Nat} (h : WF sv ns) : sv.2.2.2 0 9 = 23 + 1 := (h.2.2.2.2.2.2.1).1
theorem wf_121 {sv : SV} {ns : Nat} (h : WF sv ns) : sv.2.2.2 0 10 = 24 + 1 := (h.2.2.2.2.2.2.1).2.1
theorem wf_122 {sv : SV} {ns : Nat} (h : WF sv ns) : sv.2.2.2 24 0 = 25 + 1 := (h.2.2.2.2.2.2.1).2.2.1
theorem wf_123 {sv : SV} {ns : Nat} (h : WF sv ns) : sv.2.2.2 24 1 = 26 + 1 := (h.2.2.2.2.2.2.1).2.2.2.1
theorem wf_124 {sv : SV} {ns : Nat} (h : WF sv ns) : sv.2.2.2 25 0 = 27 + 1 := (h.2.2.2.2.2.2.1).2.2.2.2.1
theorem wf_125 {sv : SV} {ns : Nat} (h : WF sv ns) : sv.2.2.2 25 1 = 30 + 1 := (h.2.2.2.2.2.2.1).2.2.2.2.2.1
theorem wf_126 {sv : SV} {ns : Nat} (h : WF sv ns) : sv.2.2.2 25 2 = 33 + 1 := (h.2.2.2.2.2.2.1).2.2.2.2.2.2.1
theorem wf_127 {sv : SV} {ns : Nat} (h : WF sv ns) : sv.2.2.2 25 3 = 36 + 1 := (h.2.2.2.2.2.2.1).2.2.2.2.2.2.2.1
theorem wf_128 {sv : SV} {ns : Nat} (h : WF sv ns) : sv.2.2.2 25 4 = 39 + 1 := (h.2.2.2.2.2.2.1).2.2.2.2.2.2.2.2.1
theorem wf_129 {sv : SV} {ns : Nat} (h : WF sv ns) : sv.2.2.2 13 0 = 14 + 1 := (h.2.2.2.2.2.2.1).2.2.2.2.2.2.2.2.2.1
theorem wf_130 {sv : SV} {ns : Nat} (h : WF sv ns) : sv.2.2.2 13 1 = 15 + 1 := (h.2.2.2.2.2.2.1).2.2.2.2.2.2.2.2.2.2.1
theorem wf_131 {sv : SV} {ns : Nat} (h : WF sv ns) : sv.2.2.2 27 0 = 28 + 1 := (h.2.2.2.2.2.2.1).2.2.2.2.2.2.2.2.2.2.2.1
theorem wf_132 {sv : SV} {ns : Nat} (h : WF sv ns) : sv.2.2.2 27 1 = 29 + 1 := (h.2.2.2.2.2.2.1).2.2.2.2.2.2.2.2.2.2.2.2.1
theorem wf_133 {sv : SV} {ns : Nat} (h : WF sv ns) : sv.2.2.2 30 0 = 31 + 1 := (h.2.2.2.2.2.2.1).2.2.2.2.2.2.2.2.2.2.2.2.2.1
theorem wf_134 {sv : SV} {ns : Nat} (h : WF sv ns) : sv.2.2.2 30 1 = 32 + 1 := (h.2.2.2.2.2.2.1).2.2.2.2.2.2.2.2.2.2.2.2.2.2.1
theorem wf_135 {sv : SV} {ns : Nat} (h : WF sv ns) : sv.2.2.2 33 0 = 34 + 1 := (h.2.2.2.2.2.2.1).2.2.2.2.2.2.2.2.2.2.2.2.2.2.2.1
theorem wf_136 {sv : SV} {ns : Nat} (h : WF sv ns) : sv.2.2.2 33 1 = 35 + 1 := (h.2.2.2.2.2.2.1).2.2.2.2.2.2.2.2.2.2.2.2.2.2.2.2.1
theorem wf_137 {sv : SV} {ns : Nat} (h : WF sv ns) : sv.2.2.2 36 0 = 37 + 1 := (h.2.2.2.2.2.2.1).2.2.2.2.2.2.2.2.2.2.2.2.2.2.2.2.2.1
theorem wf_138 {sv : SV} {ns : Nat} (h : WF sv ns) : sv.2.2.2 36 1 = 38 + 1 := (h.2.2.2.2.2.2.1).2.2.2.2.2.2.2.2.2.2.2.2.2.2.2.2.2.2.1
theorem wf_139 {sv : SV} {ns : Nat} (h : WF sv ns) : sv.2.2.2 39 0 = 40 + 1 := (h.2.2.2.2.2.2.1).2.2.2.2.2.2.2.2.2.2.2.2.2.2.2.2.2.2.2
theorem wf_140 {sv : SV} {ns : Nat} (h : WF sv ns) : sv.2.2.2 39 1 = 41 + 1 := (h.2.2.2.2.2.2.2.1).1
theorem wf_141 {sv : SV} {ns : Nat} (h : WF sv ns) : sv.2.2.2 0 11 = 42 + 1 := (h.2.2.2.2.2.2.2.1).2.1
theorem wf_142 {sv : SV} {ns : Nat} (h : WF sv ns) : sv.2.2.2 42 0 = 43 + 1 := (h.2.2.2.2.2.2.2.1).2.2.1
theorem wf_143 {sv : SV} {ns : Nat} (h : WF sv ns) : sv.2.2.2 42 1 = 44 + 1 := (h.2.2.2.2.2.2.2.1).2.2.2.1
theorem wf_144 {sv : SV} {ns : Nat} (h : WF sv ns) : sv.2.2.2 42 2 = 45 + 1 := (h.2.2.2.2.2.2.2.1).2.2.2.2.1
theorem wf_145 {sv : SV} {ns : Nat} (h : WF sv ns) : sv.2.2.2 42 3 = 46 + 1 := (h.2.2.2.2.2.2.2.1).2.2.2.2.2.1
theorem wf_146 {sv : SV} {ns : Nat} (h : WF sv ns) : sv.2.2.2 0 12 = 47 + 1 := (h.2.2.2.2.2.2.2.1).2.2.2.2.2.2.1
theorem wf_147 {sv : SV} {ns : Nat} (h : WF sv ns) : sv.2.2.2 47 0 = 48 + 1 := (h.2.2.2.2.2.2.2.1).2.2.2.2.2.2.2.1
theorem wf_148 {sv : SV} {ns : Nat} (h : WF sv ns) : sv.2.2.2 47 2 = 49 + 1 := (h.2.2.2.2.2.2.2.1).2.2.2.2.2.2.2.2.1
theorem wf_149 {sv : SV} {ns : Nat} (h : WF sv ns) : sv.2.2.2 0 13 = 50 + 1 := (h.2.2.2.2.2.2.2.1).2.2.2.2.2.2.2.2.2.1
theorem wf_150 {sv : SV} {ns : Nat} (h : WF sv ns) : sv.2.2.2 51 4 = 52 + 1 := (h.2.2.2.2.2.2.2.1).2.2.2.2.2.2.2.2.2.2.1
theorem wf_151 {sv : SV} {ns : Nat} (h : WF sv ns) : sv.2.2.2 50 0 = 51 + 1 := (h.2.2.2.2.2.2.2.1).2.2.2.2.2.2.2.2.2.2.2.1
theorem wf_152 {sv : SV} {ns : Nat} (h : WF sv ns) : sv.2.2.2 53 4 = 54 + 1 := (h.2.2.2.2.2.2.2.1).2.2.2.2.2.2.2.2.2.2.2.2.1
theorem wf_153 {sv : SV} {ns : Nat} (h : WF sv ns) : sv.2.2.2 50 1 = 53 + 1 := (h.2.2.2.2.2.2.2.1).2.2.2.2.2.2.2.2.2.2.2.2.2.1
theorem wf_154 {sv : SV} {ns : Nat} (h : WF sv ns) : sv.2.2.2 55 4 = 56 + 1 := (h.2.2.2.2.2.2.2.1).2.2.2.2.2.2.2.2.2.2.2.2.2.2.1
theorem wf_155 {sv : SV} {ns : Nat} (h : WF sv ns) : sv.2.2.2 50 2 = 55 + 1 := (h.2.2.2.2.2.2.2.1).2.2.2.2.2.2.2.2.2.2.2.2.2.2.2.1
theorem wf_156 {sv : SV} {ns : Nat} (h : WF sv ns) : sv.2.2.2 57 4 = 58 + 1 := (h.2.2.2.2.2.2.2.1).2.2.2.2.2.2.2.2.2.2.2.2.2.2.2.2.1
theorem wf_157 {sv : SV} {ns : Nat} (h : WF sv ns) : sv.2.2.2 50 3 = 57 + 1 := (h.2.2.2.2.2.2.2.1).2.2.2.2.2.2.2.2.2.2.2.2.2.2.2.2.2.1
theorem wf_158 {sv : SV} {ns : Nat} (h : WF sv ns) : sv.2.2.2 59 4 = 60 + 1 := (h.2.2.2.2.2.2.2.1).2.2.2.2.2.2.2.2.2.2.2.2.2.2.2.2.2.2.1
theorem wf_159 {sv : SV} {ns : Nat} (h : WF sv ns) : sv.2.2.2 50 4 = 59 + 1 := (h.2.2.2.2.2.2.2.1).2.2.2.2.2.2.2.2.2.2.2.2.2.2.2.2.2.2.2
theorem wf_160 {sv : SV} {ns : Nat} (h : WF sv ns) : sv.2.2.2 61 4 = 62 + 1 := (h.2.2.2.2.2.2.2.2.1).1
theorem wf_161 {sv : SV} {ns : Nat} (h : WF sv ns) : sv.2.2.2 50 5 = 61 + 1 := (h.2.2.2.2.2.2.2.2.1).2.1
theorem wf_162 {sv : SV} {ns : Nat} (h : WF sv ns) : sv.2.2.2 63 2 = 64 + 1 := (h.2.2.2.2.2.2.2.2.1).2.2.1
theorem wf_163 {sv : SV} {ns : Nat} (h : WF sv ns) : sv.2.2.2 63 3 = 65 + 1 := (h.2.2.2.2.2.2.2.2.1).2.2.2.1
theorem wf_164 {sv : SV} {ns : Nat} (h : WF sv ns) : sv.2.2.2 63 4 = 66 + 1 := (h.2.2.2.2.2.2.2.2.1).2.2.2.2.1
theorem wf_165 {sv : SV} {ns : Nat} (h : WF sv ns) : sv.2.2.2 63 6 = 67 + 1 := (h.2.2.2.2.2.2.2.2.1).2.2.2.2.2.1
theorem wf_166 {sv : SV} {ns : Nat} (h : WF sv ns) : sv.2.2.2 63 7 = 68 + 1 := (h.2.2.2.2.2.2.2.2.1).2.2.2.2.2.2.1
theorem wf_167 {sv : SV} {ns : Nat} (h : WF sv ns) : sv.2.2.2 63 8 = 69 + 1 := (h.2.2.2.2.2.2.2.2.1).2.2.2.2.2.2.2.1
theorem wf_168 {sv : SV} {ns : Nat} (h : WF sv ns) : sv.2.2.2 63 11 = 70 + 1 := (h.2.2.2.2.2.2.2.2.1).2.2.2.2.2.2.2.2.1
theorem wf_169 {sv : SV} {ns : Nat} (h : WF sv ns) : sv.2.2.2 63 12 = 71 + 1 := (h.2.2.2.2.2.2.2.2.1).2.2.2.2.2.2.2.2.2.1
theorem wf_170 {sv : SV} {ns : Nat} (h : WF sv ns) : sv.2.2.2 63 13 = 72 + 1 := (h.2.2.2.2.2.2.2.2.1).2.2.2.2.2.2.2.2.2.2.1
theorem wf_171 {sv : SV} {ns : Nat} (h : WF sv ns) : sv.2.2.2 63 14 = 73 + 1 := (h.2.2.2.2.2.2.2.2.1).2.2.2.2.2.2.2.2.2.2.2.1
theorem wf_172 {sv : SV} {ns : Nat} (h : WF sv ns) : sv.2.2.2 63 15 = 74 + 1 := (h.2.2.2.2.2.2.2.2.1).2.2.2.2.2.2.2.2.2.2.2.2.1
theorem wf_173 {sv : SV} {ns : Nat} (h : WF sv ns) : sv.2.2.2 63 21 = 75 + 1 := (h.2.2.2.2.2.2.2.2.1).2.2.2.2.2.2.2.2.2.2.2.2.2.1
theorem wf_174 {sv : SV} {ns : Nat} (h : WF sv ns) : sv.2.2.2 63 22 = 76 + 1 := (h.2.2.2.2.2.2.2.2.1).2.2.2.2.2.2.2.2.2.2.2.2.2.2.1
theorem wf_175 {sv : SV} {ns : Nat} (h : WF sv ns) : sv.2.2.2 63 23 = 77 + 1 := (h.2.2.2.2.2.2.2.2.1).2.2.2.2.2.2.2.2.2.2.2.2.2.2.2.1
theorem wf_176 {sv : SV} {ns : Nat} (h : WF sv ns) : sv.2.2.2 63 24 = 78 + 1 := (h.2.2.2.2.2.2.2.2.1).2.2.2.2.2.2.2.2.2.2.2.2.2.2.2.2.1
theorem wf_177 {sv : SV} {ns : Nat} (h : WF sv ns) : sv.2.2.2 63 25 = 79 + 1 := (h.2.2.2.2.2.2.2.2.1).2.2.2.2.2.2.2.2.2.2.2.2.2.2.2.2.2.1
theorem wf_178 {sv : SV} {ns : Nat} (h : WF sv ns) : sv.2.2.2 63 26 = 80 + 1 := (h.2.2.2.2.2.2.2.2.1).2.2.2.2.2.2.2.2.2.2.2.2.2.2.2.2.2.2.1
theorem wf_179 {sv : SV} {ns : Nat} (h : WF sv ns) : sv.2.2.2 63 27 = 81 + 1 := (h.2.2.2.2.2.2.2.2.1).2.2.2.2.2.2.2.2.2.2.2.2.2.2.2.2.2.2.2
theorem wf_180 {sv : SV} {ns : Nat} (h : WF sv ns) : sv.2.2.2 63 31 = 82 + 1 := (h.2.2.2.2.2.2.2.2.2).1
theorem wf_181 {sv : SV} {ns : Nat} (h : WF sv ns) : sv.2.2.2 63 32 = 83 + 1 := (h.2.2.2.2.2.2.2.2.2).2.1
theorem wf_182 {sv : SV} {ns : Nat} (h : WF sv ns) : sv.2.2.2 63 34 = 84 + 1 := (h.2.2.2.2.2.2.2.2.2).2.2.1
theorem wf_183 {sv : SV} {ns : Nat} (h : WF sv ns) : sv.2.2.2 63 35 = 85 + 1 := (h.2.2.2.2.2.2.2.2.2).2.2.2.1
theorem wf_184 {sv : SV} {ns : Nat} (h : WF sv ns) : sv.2.2.2 63 37 = 86 + 1 := (h.2.2.2.2.2.2.2.2.2).2.2.2.2.1
theorem wf_185 {sv : SV} {ns : Nat} (h : WF sv ns) : sv.2.2.2 63 38 = 87 + 1 := (h.2.2.2.2.2.2.2.2.2).2.2.2.2.2.1
theorem wf_186 {sv : SV} {ns : Nat} (h : WF sv ns) : sv.2.2.2 63 41 = 88 + 1 := (h.2.2.2.2.2.2.2.2.2).2.2.2.2.2.2.1
theorem wf_187 {sv : SV} {ns : Nat} (h : WF sv ns) : sv.2.2.2 63 42 = 89 + 1 := (h.2.2.2.2.2.2.2.2.2).2.2.2.2.2.2.2.1
theorem wf_188 {sv : SV} {ns : Nat} (h : WF sv ns) : sv.2.2.2 63 43 = 90 + 1 := (h.2.2.2.2.2.2.2.2.2).2.2.2.2.2.2.2.2.1
theorem wf_189 {sv : SV} {ns : Nat} (h : WF sv ns) : sv.2.2.2 63 44 = 91 + 1 := (h.2.2.2.2.2.2.2.2.2).2.2.2.2.2.2.2.2.2.1
theorem wf_190 {sv : SV} {ns : Nat} (h : WF sv ns) : sv.2.2.2 63 46 = 92 + 1 := (h.2.2.2.2.2.2.2.2.2).2.2.2.2.2.2.2.2.2.2.1
theorem wf_191 {sv : SV} {ns : Nat} (h : WF sv ns) : sv.2.2.2 63 48 = 93 + 1 := (h.2.2.2.2.2.2.2.2.2).2.2.2.2.2.2.2.2.2.2.2.1
theorem wf_192 {sv : SV} {ns : Nat} (h : WF sv ns) : sv.2.2.2 63 49 = 94 + 1 := (h.2.2.2.2.2.2.2.2.2).2.2.2.2.2.2.2.2.2.2.2.2.1
theorem wf_193 {sv : SV} {ns : Nat} (h : WF sv ns) : sv.2.2.2 63 50 = 95 + 1 := (h.2.2.2.2.2.2.2.2.2).2.2.2.2.2.2.2.2.2.2.2.2.2.1
theorem wf_194 {sv : SV} {ns : Nat} (h : WF sv ns) : sv.2.2.2 63 51 = 96 + 1 := (h.2.2.2.2.2.2.2.2.2).2.2.2.2.2.2.2.2.2.2.2.2.2.2.1
theorem wf_195 {sv : SV} {ns : Nat} (h : WF sv ns) : sv.2.2.2 63 52 = 97 + 1 := (h.2.2.2.2.2.2.2.2.2).2.2.2.2.2.2.2.2.2.2.2.2.2.2.2.1
theorem wf_196 {sv : SV} {ns : Nat} (h : WF sv ns) : ∀ i, i < ns → sv.2.2.2 1 i = (98 + 5 * i) + 1 := (h.2.2.2.2.2.2.2.2.2).2.2.2.2.2.2.2.2.2.2.2.2.2.2.2.2.1
theorem wf_197 {sv : SV} {ns : Nat} (h : WF sv ns) : ∀ i, i < ns → isSill sv (98 + 5 * i) := (h.2.2.2.2.2.2.2.2.2).2.2.2.2.2.2.2.2.2.2.2.2.2.2.2.2.2.1
theorem wf_198 {sv : SV} {ns : Nat} (h : WF sv ns) : ∀ i, i < 6 → sv.2.2.2 50 i = (51 + 2 * i) + 1 ∧ isShelf sv (51 + 2 * i) := (h.2.2.2.2.2.2.2.2.2).2.2.2.2.2.2.2.2.2.2.2.2.2.2.2.2.2.2.1
theorem wf_199 {sv : SV} {ns : Nat} (h : WF sv ns) : ∀ i, i < 5 → sv.2.2.2 25 i = (27 + 3 * i) + 1 ∧ isDust sv (27 + 3 * i) := (h.2.2.2.2.2.2.2.2.2).2.2.2.2.2.2.2.2.2.2.2.2.2.2.2.2.2.2.2
theorem wf_in5 {sv : SV} {ns : Nat} (h : WF sv ns) {i : Int32} (b : vp_in i ns) : vp_in i 5 := by
  have h5 := wf_0 h
  rw [vp_in_iff] at b ⊢
  omega
theorem vp_lt {i : Int32} {n : Nat} (b : vp_in i n) : i.toNatClampNeg < n := Nat.not_le.mp fun q => b (Or.inr q)
theorem wf_house {sv : SV} {ns : Nat} (h : WF sv ns) {i : Int32} (b : vp_in i ns) : sv.2.2.2 1 i.toNatClampNeg = (98 + 5 * i.toNatClampNeg) + 1 := wf_196 h _ (vp_lt b)
theorem wf_sill {sv : SV} {ns : Nat} (h : WF sv ns) {i : Int32} (b : vp_in i ns) : isSill sv (98 + 5 * i.toNatClampNeg) := wf_197 h _ (vp_lt b)
theorem wf_shv {sv : SV} {ns : Nat} (h : WF sv ns) {i : Int32} (b : vp_in i 6) : sv.2.2.2 50 i.toNatClampNeg = (51 + 2 * i.toNatClampNeg) + 1 := (wf_198 h _ (vp_lt b)).1
theorem wf_shelf {sv : SV} {ns : Nat} (h : WF sv ns) {i : Int32} (b : vp_in i 6) : isShelf sv (51 + 2 * i.toNatClampNeg) := (wf_198 h _ (vp_lt b)).2
theorem wf_idv {sv : SV} {ns : Nat} (h : WF sv ns) {i : Int32} (b : vp_in i 5) : sv.2.2.2 25 i.toNatClampNeg = (27 + 3 * i.toNatClampNeg) + 1 := (wf_199 h _ (vp_lt b)).1
theorem wf_idust {sv : SV} {ns : Nat} (h : WF sv ns) {i : Int32} (b : vp_in i 5) : isDust sv (27 + 3 * i.toNatClampNeg) := (wf_199 h _ (vp_lt b)).2
theorem wf_dust13 {sv : SV} {ns : Nat} (h : WF sv ns) : isDust sv 13 := ⟨wf_15 h, wf_129 h, wf_130 h, wf_16 h, wf_17 h⟩
theorem wf_law5 {sv : SV} {ns : Nat} (h : WF sv ns) : isLaw sv 5 := ⟨wf_7 h, wf_105 h, wf_106 h, wf_107 h, wf_8 h, wf_9 h, wf_10 h⟩
theorem wf_law9 {sv : SV} {ns : Nat} (h : WF sv ns) : isLaw sv 9 := ⟨wf_11 h, wf_109 h, wf_110 h, wf_111 h, wf_12 h, wf_13 h, wf_14 h⟩
theorem svr_into {sv : SV} : (j_svr sv 3 4 (9 + 1)).2.2.2 3 4 = 9 + 1 := by simp [j_up]
theorem vr_into {sv : SV} {o k r : Nat} (h : o ≠ 3) : (j_svr sv 3 4 r).2.2.2 o k = sv.2.2.2 o k := by
  simp only [j_up, if_neg (show ¬ (o = 3 ∧ k = 4) from fun q => h q.1)]
theorem vr_into2 {sv : SV} {o k r : Nat} (h : ¬ (o = 3 ∧ k = 4)) : (j_svr sv 3 4 r).2.2.2 o k = sv.2.2.2 o k := by
  simp only [j_up, if_neg h]
theorem isDust_into {sv : SV} {o r : Nat} (h : 3 < o) (hd : isDust sv o) : isDust (j_svr sv 3 4 r) o := by
  have h3 : o ≠ 3 := by omega
  exact ⟨hd.1, (vr_into h3).trans hd.2.1, (vr_into h3).trans hd.2.2.1, hd.2.2.2.1, hd.2.2.2.2⟩
theorem isShelf_into {sv : SV} {o r : Nat} (h : 3 < o) (hd : isShelf sv o) : isShelf (j_svr sv 3 4 r) o := by
  have h3 : o ≠ 3 := by omega
  exact ⟨hd.1, (vr_into h3).trans hd.2.1, hd.2.2⟩
theorem isSill_into {sv : SV} {o r : Nat} (h : 3 < o) (hd : isSill sv o) : isSill (j_svr sv 3 4 r) o := by
  have h3 : o ≠ 3 := by omega
  exact ⟨hd.1, (vr_into h3).trans hd.2.1, (vr_into h3).trans hd.2.2.1, (vr_into h3).trans hd.2.2.2.1, hd.2.2.2.2.1, isDust_into (by omega) hd.2.2.2.2.2⟩
theorem wf_into0 {sv : SV} {ns r : Nat} (h : WF sv ns) : WF0 (j_svr sv 3 4 r) ns := ⟨(by have q := wf_0 h; exact q), (by have q := wf_1 h; exact q), (by have q := wf_2 h; exact q), (by have q := wf_3 h; exact q), (by have q := wf_4 h; exact q), (by have q := wf_5 h; exact q), (by have q := wf_6 h; exact q), (by have q := wf_7 h; exact q), (by have q := wf_8 h; exact q), (by have q := wf_9 h; exact q), (by have q := wf_10 h; exact q), (by have q := wf_11 h; exact q), (by have q := wf_12 h; exact q), (by have q := wf_13 h; exact q), (by have q := wf_14 h; exact q), (by have q := wf_15 h; exact q), (by have q := wf_16 h; exact q), (by have q := wf_17 h; exact q), (by have q := wf_18 h; exact q), (by have q := wf_19 h; exact q)⟩
theorem wf_into1 {sv : SV} {ns r : Nat} (h : WF sv ns) : WF1 (j_svr sv 3 4 r) ns := ⟨(by have q := wf_20 h; exact q), (by have q := wf_21 h; exact q), (by have q := wf_22 h; exact q), (by have q := wf_23 h; exact q), (by have q := wf_24 h; exact q), (by have q := wf_25 h; exact q), (by have q := wf_26 h; exact q), (by have q := wf_27 h; exact q), (by have q := wf_28 h; exact q), (by have q := wf_29 h; exact q), (by have q := wf_30 h; exact q), (by have q := wf_31 h; exact q), (by have q := wf_32 h; exact q), (by have q := wf_33 h; exact q), (by have q := wf_34 h; exact q), (by have q := wf_35 h; exact q), (by have q := wf_36 h; exact q), (by have q := wf_37 h; exact q), (by have q := wf_38 h; exact q), (by have q := wf_39 h; exact q)⟩
theorem wf_into2 {sv : SV} {ns r : Nat} (h : WF sv ns) : WF2 (j_svr sv 3 4 r) ns := ⟨(by have q := wf_40 h; exact q), (by have q := wf_41 h; exact q), (by have q := wf_42 h; exact q), (by have q := wf_43 h; exact q), (by have q := wf_44 h; exact q), (by have q := wf_45 h; exact q), (by have q := wf_46 h; exact q), (by have q := wf_47 h; exact q), (by have q := wf_48 h; exact q), (by have q := wf_49 h; exact q), (by have q := wf_50 h; exact q), (by have q := wf_51 h; exact q), (by have q := wf_52 h; exact q), (by have q := wf_53 h; exact q), (by have q := wf_54 h; exact q), (by have q := wf_55 h; exact q), (by have q := wf_56 h; exact q), (by have q := wf_57 h; exact q), (by have q := wf_58 h; exact q), (by have q := wf_59 h; exact q)⟩
theorem wf_into3 {sv : SV} {ns r : Nat} (h : WF sv ns) : WF3 (j_svr sv 3 4 r) ns := ⟨(by have q := wf_60 h; exact q), (by have q := wf_61 h; exact q), (by have q := wf_62 h; exact q), (by have q := wf_63 h; exact q), (by have q := wf_64 h; exact q), (by have q := wf_65 h; exact q), (by have q := wf_66 h; exact q), (by have q := wf_67 h; exact q), (by have q := wf_68 h; exact q), (by have q := wf_69 h; exact q), (by have q := wf_70 h; exact q), (by have q := wf_71 h; exact q), (by have q := wf_72 h; exact q), (by have q := wf_73 h; exact q), (by have q := wf_74 h; exact q), (by have q := wf_75 h; exact q), (by have q := wf_76 h; exact q), (by have q := wf_77 h; exact q), (by have q := wf_78 h; exact q), (by have q := wf_79 h; exact q)⟩
theorem wf_into4 {sv : SV} {ns r : Nat} (h : WF sv ns) : WF4 (j_svr sv 3 4 r) ns := ⟨(by have q := wf_80 h; exact q), (by have q := wf_81 h; exact q), (by have q := wf_82 h; exact q), (by have q := wf_83 h; exact q), (by have q := wf_84 h; exact q), (by have q := wf_85 h; exact q), (by have q := wf_86 h; exact q), (by have q := wf_87 h; exact q), (by have q := wf_88 h; exact q), (by have q := wf_89 h; exact q), (by have q := wf_90 h; exact q), (by have q := wf_91 h; exact q), (by have q := wf_92 h; exact q), (by have q := wf_93 h; exact q), (by have q := wf_94 h; exact q), (by have q := wf_95 h; exact q), (by have q := wf_96 h; exact q), (by have q := wf_97 h; exact q), (by have q := wf_98 h; exact q), (by have q := wf_99 h; exact q)⟩
theorem wf_into5 {sv : SV} {ns r : Nat} (h : WF sv ns) : WF5 (j_svr sv 3 4 r) ns := ⟨((vr_into2 (by decide)).trans (wf_100 h)), ((vr_into2 (by decide)).trans (wf_101 h)), ((vr_into2 (by decide)).trans (wf_102 h)), ((vr_into2 (by decide)).trans (wf_103 h)), ((vr_into2 (by decide)).trans (wf_104 h)), ((vr_into2 (by decide)).trans (wf_105 h)), ((vr_into2 (by decide)).trans (wf_106 h)), ((vr_into2 (by decide)).trans (wf_107 h)), ((vr_into2 (by decide)).trans (wf_108 h)), ((vr_into2 (by decide)).trans (wf_109 h)), ((vr_into2 (by decide)).trans (wf_110 h)), ((vr_into2 (by decide)).trans (wf_111 h)), ((vr_into2 (by decide)).trans (wf_112 h)), ((vr_into2 (by decide)).trans (wf_113 h)), ((vr_into2 (by decide)).trans (wf_114 h)), ((vr_into2 (by decide)).trans (wf_115 h)), ((vr_into2 (by decide)).trans (wf_116 h)), ((vr_into2 (by decide)).trans (wf_117 h)), ((vr_into2 (by decide)).trans (wf_118 h)), ((vr_into2 (by decide)).trans (wf_119 h))⟩
theorem wf_into6 {sv : SV} {ns r : Nat} (h : WF sv ns) : WF6 (j_svr sv 3 4 r) ns := ⟨((vr_into2 (by decide)).trans (wf_120 h)), ((vr_into2 (by decide)).trans (wf_121 h)), ((vr_into2 (by decide)).trans (wf_122 h)), ((vr_into2 (by decide)).trans (wf_123 h)), ((vr_into2 (by decide)).trans (wf_124 h)), ((vr_into2 (by decide)).trans (wf_125 h)), ((vr_into2 (by decide)).trans (wf_126 h)), ((vr_into2 (by decide)).trans (wf_127 h)), ((vr_into2 (by decide)).trans (wf_128 h)), ((vr_into2 (by decide)).trans (wf_129 h)), ((vr_into2 (by decide)).trans (wf_130 h)), ((vr_into2 (by decide)).trans (wf_131 h)), ((vr_into2 (by decide)).trans (wf_132 h)), ((vr_into2 (by decide)).trans (wf_133 h)), ((vr_into2 (by decide)).trans (wf_134 h)), ((vr_into2 (by decide)).trans (wf_135 h)), ((vr_into2 (by decide)).trans (wf_136 h)), ((vr_into2 (by decide)).trans (wf_137 h)), ((vr_into2 (by decide)).trans (wf_138 h)), ((vr_into2 (by decide)).trans (wf_139 h))⟩
theorem wf_into7 {sv : SV} {ns r : Nat} (h : WF sv ns) : WF7 (j_svr sv 3 4 r) ns := ⟨((vr_into2 (by decide)).trans (wf_140 h)), ((vr_into2 (by decide)).trans (wf_141 h)), ((vr_into2 (by decide)).trans (wf_142 h)), ((vr_into2 (by decide)).trans (wf_143 h)), ((vr_into2 (by decide)).trans (wf_144 h)), ((vr_into2 (by decide)).trans (wf_145 h)), ((vr_into2 (by decide)).trans (wf_146 h)), ((vr_into2 (by decide)).trans (wf_147 h)), ((vr_into2 (by decide)).trans (wf_148 h)), ((vr_into2 (by decide)).trans (wf_149 h)), ((vr_into2 (by decide)).trans (wf_150 h)), ((vr_into2 (by decide)).trans (wf_151 h)), ((vr_into2 (by decide)).trans (wf_152 h)), ((vr_into2 (by decide)).trans (wf_153 h)), ((vr_into2 (by decide)).trans (wf_154 h)), ((vr_into2 (by decide)).trans (wf_155 h)), ((vr_into2 (by decide)).trans (wf_156 h)), ((vr_into2 (by decide)).trans (wf_157 h)), ((vr_into2 (by decide)).trans (wf_158 h)), ((vr_into2 (by decide)).trans (wf_159 h))⟩
theorem wf_into8 {sv : SV} {ns r : Nat} (h : WF sv ns) : WF8 (j_svr sv 3 4 r) ns := ⟨((vr_into2 (by decide)).trans (wf_160 h)), ((vr_into2 (by decide)).trans (wf_161 h)), ((vr_into2 (by decide)).trans (wf_162 h)), ((vr_into2 (by decide)).trans (wf_163 h)), ((vr_into2 (by decide)).trans (wf_164 h)), ((vr_into2 (by decide)).trans (wf_165 h)), ((vr_into2 (by decide)).trans (wf_166 h)), ((vr_into2 (by decide)).trans (wf_167 h)), ((vr_into2 (by decide)).trans (wf_168 h)), ((vr_into2 (by decide)).trans (wf_169 h)), ((vr_into2 (by decide)).trans (wf_170 h)), ((vr_into2 (by decide)).trans (wf_171 h)), ((vr_into2 (by decide)).trans (wf_172 h)), ((vr_into2 (by decide)).trans (wf_173 h)), ((vr_into2 (by decide)).trans (wf_174 h)), ((vr_into2 (by decide)).trans (wf_175 h)), ((vr_into2 (by decide)).trans (wf_176 h)), ((vr_into2 (by decide)).trans (wf_177 h)), ((vr_into2 (by decide)).trans (wf_178 h)), ((vr_into2 (by decide)).trans (wf_179 h))⟩
theorem wf_into9 {sv : SV} {ns r : Nat} (h : WF sv ns) : WF9 (j_svr sv 3 4 r) ns := ⟨((vr_into2 (by decide)).trans (wf_180 h)), ((vr_into2 (by decide)).trans (wf_181 h)), ((vr_into2 (by decide)).trans (wf_182 h)), ((vr_into2 (by decide)).trans (wf_183 h)), ((vr_into2 (by decide)).trans (wf_184 h)), ((vr_into2 (by decide)).trans (wf_185 h)), ((vr_into2 (by decide)).trans (wf_186 h)), ((vr_into2 (by decide)).trans (wf_187 h)), ((vr_into2 (by decide)).trans (wf_188 h)), ((vr_into2 (by decide)).trans (wf_189 h)), ((vr_into2 (by decide)).trans (wf_190 h)), ((vr_into2 (by decide)).trans (wf_191 h)), ((vr_into2 (by decide)).trans (wf_192 h)), ((vr_into2 (by decide)).trans (wf_193 h)), ((vr_into2 (by decide)).trans (wf_194 h)), ((vr_into2 (by decide)).trans (wf_195 h)), (fun i hi => (vr_into (by decide)).trans (wf_196 h i hi)), (fun i hi => isSill_into (by omega) (wf_197 h i hi)), (fun i hi => ⟨(vr_into (by decide)).trans (wf_198 h i hi).1, isShelf_into (by omega) (wf_198 h i hi).2⟩), (fun i hi => ⟨(vr_into (by decide)).trans (wf_199 h i hi).1, isDust_into (by omega) (wf_199 h i hi).2⟩)⟩
theorem wf_into {sv : SV} {ns r : Nat} (h : WF sv ns) : WF (j_svr sv 3 4 r) ns := ⟨wf_into0 h, wf_into1 h, wf_into2 h, wf_into3 h, wf_into4 h, wf_into5 h, wf_into6 h, wf_into7 h, wf_into8 h, wf_into9 h⟩
