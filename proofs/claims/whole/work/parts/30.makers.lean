theorem h_if {α : Type} {c : Prop} [Decidable c] {a : Option α} {x : α} (h : (if c then a else none) = some x) : c ∧ a = some x := by
  by_cases hc : c
  · rw [if_pos hc] at h; exact ⟨hc, h⟩
  · rw [if_neg hc] at h; cases h
def optL {α β : Type} (x : α) (f : α → Option β) : Option β := f x
theorem h_let {α β : Type} {x : α} {f : α → Option β} {y : β} (h : optL x f = some y) : ∃ z, z = x ∧ f z = some y := ⟨x, rfl, h⟩
def obB (sv : SV) (o k : Nat) : Bool := decide (o < sv.1 ∧ sv.2.1 o = k)
def arB (sv : SV) (o k N : Nat) : Bool := decide (o < sv.1 ∧ sv.2.1 o = k ∧ sv.2.2.1 o = N)
def shB (sv : SV) (o : Nat) : Bool := decide ((o < sv.1 ∧ sv.2.1 o = 6) ∧ sv.2.2.2 o 4 = (o + 1) + 1 ∧ (o + 1 < sv.1 ∧ sv.2.1 (o + 1) = 20 ∧ sv.2.2.1 (o + 1) = 60))
theorem h_ob {α : Type} {sv : SV} {o k : Nat} {a : Option α} {x : α} (h : (if obB sv o k = true then a else none) = some x) : Ob sv o k ∧ a = some x := by
  obtain ⟨b, h⟩ := h_if h
  exact ⟨by simpa [obB, Ob] using b, h⟩
theorem h_ar {α : Type} {sv : SV} {o k N : Nat} {a : Option α} {x : α} (h : (if arB sv o k N = true then a else none) = some x) : Ar sv o k N ∧ a = some x := by
  obtain ⟨b, h⟩ := h_if h
  exact ⟨by simpa [arB, Ar] using b, h⟩
theorem h_sh {α : Type} {sv : SV} {o : Nat} {a : Option α} {x : α} (h : (if shB sv o = true then a else none) = some x) : isShelf sv o ∧ a = some x := by
  obtain ⟨b, h⟩ := h_if h
  exact ⟨by simpa [shB, isShelf, Ob, Ar] using b, h⟩
theorem nz_eq {n : Nat} (h : 0 < n) : n = (n - 1) + 1 := by omega
theorem wac_11 : Cond.arrayClass (newarray.typeOf .int) ∈ gtb := gtb_in (List.mem_of_getElem? (i := 156) (by decide +kernel)) rfl
theorem wac_12 : Cond.arrayClass (newarray.typeOf .byte) ∈ gtb := gtb_in (List.mem_of_getElem? (i := 417) (by decide +kernel)) rfl
theorem wac_13 : Cond.arrayClass (newarray.typeOf .short) ∈ gtb := gtb_in (List.mem_of_getElem? (i := 1111) (by decide +kernel)) rfl
theorem wac_20 : Cond.arrayClass (newarray.typeOf .long) ∈ gtb := gtb_in (List.mem_of_getElem? (i := 234) (by decide +kernel)) rfl
section JI
variable {G : GT} {Γ : CT} {M : MI} {d MC MS : Nat} {cs ss pc : Nat} {L : List (Nat × Value)} {rest : List Value} {sv : SV} {vi : VI} {vl : VL}
theorem j_cI (B : Base G Γ M d MC MS) {M' : MI} {d' MC' MS' n index o : Nat} {av : List Value} {sv' : SV} {vi' : VI} {vl' : VL} (hC : Call G M' d' MC' MS' (.ref (G.1 + o) :: av) sv vi vl (QV sv' vi' vl')) (hM : M'.2.2.2 = none ∧ M'.1.name = "<init>") (ht : j_to M.1.cls index M' n) (w4 : Cond.instanceMethod M'.1 ∈ gtb) (hn : av.length = n) (hd : d' + 1 ≤ d) (hcs : cs + MC' ≤ MC) (hss : ss + MS' ≤ MS) {st : List Value} (hst9 : st = av.reverse ++ .ref (G.1 + o) :: rest) (hrest : (rest.map fun v => v.category).sum ≤ 8) (hdg : decode M.2.1 pc = .ok (.invokespecial index, 3))
    (kk : J G Γ (cs + MC') (ss + MS') (pc + 3) L rest sv' vi' vl') : J G Γ cs ss pc L st sv vi vl := by
  refine j_callI B hC hM ht w4 hn hd hcs hss hst9 hrest hdg ?_
  rintro _ _ _ _ ⟨rfl, rfl, rfl, rfl⟩
  exact kk
theorem j_cN (B : Base G Γ M d MC MS) {M' : MI} {d' MC' MS' n index o : Nat} {host : String} {av : List Value} {sv' : SV} {vi' : VI} {vl' : VL} (hC : Call G M' d' MC' MS' (.ref (G.1 + o) :: av) sv vi vl (QV sv' vi' vl')) (hM : M'.2.2.2 = none ∧ M'.1.name = "<init>") (hw : (M.1.cls, index, M'.1, host) ∈ j_nests) (w1 : Cond.code M'.1 M'.2.1 M'.2.2.1 M'.2.2.2 ∈ gtb) (w2 : Cond.initialized M'.1.cls ∈ gtb) (hdd : M'.1.cls ≠ "java/lang/invoke/MethodHandle" ∧ M'.1.cls ≠ "java/lang/invoke/VarHandle" ∧ (parseMethodDescriptor M'.1.desc).map (fun d => d.parameters.length) = some n) (hml' : M'.2.2.1 ≤ 45) (w4 : Cond.instanceMethod M'.1 ∈ gtb) (hn : av.length = n) (hd : d' + 1 ≤ d) (hcs : cs + MC' ≤ MC) (hss : ss + MS' ≤ MS) {st : List Value} (hst9 : st = av.reverse ++ .ref (G.1 + o) :: rest) (hrest : (rest.map fun v => v.category).sum ≤ 8) (hdg : decode M.2.1 pc = .ok (.invokespecial index, 3))
    (kk : J G Γ (cs + MC') (ss + MS') (pc + 3) L rest sv' vi' vl') : J G Γ cs ss pc L st sv vi vl := by
  refine j_callN B hC hM hw w1 w2 hdd hml' w4 hn hd hcs hss hst9 hrest hdg ?_
  rintro _ _ _ _ ⟨rfl, rfl, rfl, rfl⟩
  exact kk
theorem j_cWI (B : Base G Γ M d MC MS) {M' : MI} {d' MC' MS' n index o ci N : Nat} {av : List Value} {T9 : u_T} {ty0 : Nat → FieldType} {r : Int32} {sv' : SV} {vi' : VI} {vl' : VL} (hC : Call G M' d' MC' MS' (.ref (G.1 + o) :: av) sv vi vl (QI r sv' vi' vl')) (hc : j_cls ci M'.1.cls T9 N ty0) (ho : Ob sv o ci) (ht : j_to M.1.cls index M' n) (w4 : Cond.instanceMethod M'.1 ∈ gtb) (w5 : Cond.selects M'.1.cls M'.1 M'.1 ∈ gtb) (hn : av.length = n) (hd : d' + 1 ≤ d) (hcs : cs + MC' ≤ MC) (hss : ss + MS' ≤ MS) {st : List Value} (hst9 : st = av.reverse ++ .ref (G.1 + o) :: rest) (hrest : (rest.map fun v => v.category).sum ≤ 8) (hdg : decode M.2.1 pc = .ok (.invokevirtual index, 3))
    (kk : J G Γ (cs + MC') (ss + MS') (pc + 3) L (.int r :: rest) sv' vi' vl') : J G Γ cs ss pc L st sv vi vl := by
  refine j_callV B hC hc ho ht w4 w5 hn hd hcs hss hst9 hrest hdg ?_
  rintro _ _ _ _ ⟨rfl, rfl, rfl, rfl⟩
  exact kk
end JI
theorem hdef0 : ∀ i, i < 4 → defaultValue (tyX0 i) = if j_isr 0 i = true then .null else .int 0 := by decide +kernel
theorem hdef1 : ∀ i, i < 6 → defaultValue (tyX1 i) = if j_isr 1 i = true then .null else .int 0 := by decide +kernel
theorem hdef2 : ∀ i, i < 7 → defaultValue (tyX2 i) = if j_isr 2 i = true then .null else .int 0 := by decide +kernel
theorem hdef3 : ∀ i, i < 3 → defaultValue (tyX3 i) = if j_isr 3 i = true then .null else .int 0 := by decide +kernel
theorem hdef4 : ∀ i, i < 3 → defaultValue (tyX4 i) = if j_isr 4 i = true then .null else .int 0 := by decide +kernel
theorem hdef5 : ∀ i, i < 6 → defaultValue (tyX5 i) = if j_isr 5 i = true then .null else .int 0 := by decide +kernel
theorem hdef6 : ∀ i, i < 5 → defaultValue (tyX6 i) = if j_isr 6 i = true then .null else .int 0 := by decide +kernel
theorem hdef7 : ∀ i, i < 5 → defaultValue (tyX7 i) = if j_isr 7 i = true then .null else .int 0 := by decide +kernel
theorem hdef8 : ∀ i, i < 5 → defaultValue (tyX8 i) = if j_isr 8 i = true then .null else .int 0 := by decide +kernel
theorem hdef9 : ∀ i, i < 14 → defaultValue (tyX9 i) = if j_isr 9 i = true then .null else .int 0 := by decide +kernel
theorem hdef10 : ∀ i, i < 53 → defaultValue (tyX10 i) = if j_isr 10 i = true then .null else .int 0 := by decide +kernel
def fX3_init (o : Nat) (sv0 : SV) (vi0 : VI) (vl0 : VL) : Option (SV × VI × VL) := if 0 + 1 ≤ 2 ∧ 0 + 12 ≤ 24 then optL (j_svn sv0 11 12) fun sv2 => optL (j_z0 vi0 sv0.1 0) fun vi3 => optL (j_z0 vl0 sv0.1 0) fun vl4 => if obB sv2 o 3 = true then optL (j_svr sv2 o 0 (sv0.1 + 1)) fun sv6 => if (0 + 1) + 1 ≤ 2 ∧ (0 + 12) + 12 ≤ 24 then optL (j_svn sv6 11 12) fun sv8 => optL (j_z0 vi3 sv6.1 0) fun vi9 => optL (j_z0 vl4 sv6.1 0) fun vl10 => if obB sv8 o 3 = true then optL (j_svr sv8 o 1 (sv6.1 + 1)) fun sv12 => if ((0 + 1) + 1) ≤ 2 ∧ ((0 + 12) + 12) ≤ 24 then some (sv12, vi9, vl10) else none else none else none else none else none
theorem tX3_init {G : GT} {sv0 : SV} {vi0 : VI} {vl0 : VL} {o : Nat} {sv' : SV} {vi' : VI} {vl' : VL} (h : fX3_init o sv0 vi0 vl0 = some (sv', vi', vl')) : Call G mX3_init 1 2 24 [.ref (G.1 + o)] sv0 vi0 vl0 (QV sv' vi' vl') := by
  refine j_mk (by decide +kernel) (Nat.le_of_ble_eq_true rfl) (fun Γ B E => ?_)
  show J G Γ 0 0 0 [(0, .ref (G.1 + o))] [] sv0 vi0 vl0
  unfold fX3_init at h
  refine j_aload_n B dX3_init_0 rfl 0 rfl ?_
  refine j_objInit B wl_RX3_3 w_oi w_oc (by decide) dX3_init_1 ?_
  refine j_aload_n B dX3_init_4 rfl 0 rfl ?_
  refine j_bipush B dX3_init_5 (v := 12) (by decide) ?_
  obtain ⟨b1, h⟩ := h_if h
  refine j_newa (N := 12) B (Or.inl ⟨rfl, rfl⟩) wac_11 (by decide) (by decide) (by decide) b1.1 b1.2 dX3_init_7 ?_
  obtain ⟨sv2, esv2, h⟩ := h_let h
  rw [← esv2]
  obtain ⟨vi3, evi3, h⟩ := h_let h
  rw [← evi3]
  obtain ⟨vl4, evl4, h⟩ := h_let h
  rw [← evl4]
  obtain ⟨b5, h⟩ := h_ob h
  refine pf_RX3_9 B rfl b5 rfl dX3_init_9 ?_
  obtain ⟨sv6, esv6, h⟩ := h_let h
  rw [← esv6]
  refine j_aload_n B dX3_init_12 rfl 0 rfl ?_
  refine j_bipush B dX3_init_13 (v := 12) (by decide) ?_
  obtain ⟨b7, h⟩ := h_if h
  refine j_newa (N := 12) B (Or.inl ⟨rfl, rfl⟩) wac_11 (by decide) (by decide) (by decide) b7.1 b7.2 dX3_init_15 ?_
  obtain ⟨sv8, esv8, h⟩ := h_let h
  rw [← esv8]
  obtain ⟨vi9, evi9, h⟩ := h_let h
  rw [← evi9]
  obtain ⟨vl10, evl10, h⟩ := h_let h
  rw [← evl10]
  obtain ⟨b11, h⟩ := h_ob h
  refine pf_RX3_15 B rfl b11 rfl dX3_init_17 ?_
  obtain ⟨sv12, esv12, h⟩ := h_let h
  rw [← esv12]
  obtain ⟨b13, h⟩ := h_if h
  have e1 := Option.some.inj h
  obtain ⟨e1, e2⟩ := Prod.mk.inj e1
  obtain ⟨e2, e3⟩ := Prod.mk.inj e2
  subst e1
  subst e2
  subst e3
  exact j_vret B E rfl dX3_init_20 b13.1 b13.2 ⟨rfl, rfl, rfl, rfl⟩
def fX0_init (o : Nat) (sv0 : SV) (vi0 : VI) (vl0 : VL) : Option (SV × VI × VL) := if 0 + 1 ≤ 2 ∧ 0 + 50 ≤ 74 then optL (j_svn sv0 11 50) fun sv2 => optL (j_z0 vi0 sv0.1 0) fun vi3 => optL (j_z0 vl0 sv0.1 0) fun vl4 => if obB sv2 o 0 = true then optL (j_svr sv2 o 0 (sv0.1 + 1)) fun sv6 => if (0 + 1) + 1 ≤ 2 ∧ (0 + 50) + 24 ≤ 74 then optL (j_svn sv6 11 24) fun sv8 => optL (j_z0 vi3 sv6.1 0) fun vi9 => optL (j_z0 vl4 sv6.1 0) fun vl10 => if obB sv8 o 0 = true then optL (j_svr sv8 o 2 (sv6.1 + 1)) fun sv12 => if ((0 + 1) + 1) ≤ 2 ∧ ((0 + 50) + 24) ≤ 74 then some (sv12, vi9, vl10) else none else none else none else none else none
theorem tX0_init {G : GT} {sv0 : SV} {vi0 : VI} {vl0 : VL} {o : Nat} {sv' : SV} {vi' : VI} {vl' : VL} (h : fX0_init o sv0 vi0 vl0 = some (sv', vi', vl')) : Call G mX0_init 1 2 74 [.ref (G.1 + o)] sv0 vi0 vl0 (QV sv' vi' vl') := by
  refine j_mk (by decide +kernel) (Nat.le_of_ble_eq_true rfl) (fun Γ B E => ?_)
  show J G Γ 0 0 0 [(0, .ref (G.1 + o))] [] sv0 vi0 vl0
  unfold fX0_init at h
  refine j_aload_n B dX0_init_0 rfl 0 rfl ?_
  refine j_objInit B wl_RX0_3 w_oi w_oc (by decide) dX0_init_1 ?_
  refine j_aload_n B dX0_init_4 rfl 0 rfl ?_
  refine j_bipush B dX0_init_5 (v := 50) (by decide) ?_
  obtain ⟨b1, h⟩ := h_if h
  refine j_newa (N := 50) B (Or.inl ⟨rfl, rfl⟩) wac_11 (by decide) (by decide) (by decide) b1.1 b1.2 dX0_init_7 ?_
  obtain ⟨sv2, esv2, h⟩ := h_let h
  rw [← esv2]
  obtain ⟨vi3, evi3, h⟩ := h_let h
  rw [← evi3]
  obtain ⟨vl4, evl4, h⟩ := h_let h
  rw [← evl4]
  obtain ⟨b5, h⟩ := h_ob h
  refine pf_RX0_9 B rfl b5 rfl dX0_init_9 ?_
  obtain ⟨sv6, esv6, h⟩ := h_let h
  rw [← esv6]
  refine j_aload_n B dX0_init_12 rfl 0 rfl ?_
  refine j_bipush B dX0_init_13 (v := 24) (by decide) ?_
  obtain ⟨b7, h⟩ := h_if h
  refine j_newa (N := 24) B (Or.inl ⟨rfl, rfl⟩) wac_11 (by decide) (by decide) (by decide) b7.1 b7.2 dX0_init_15 ?_
  obtain ⟨sv8, esv8, h⟩ := h_let h
  rw [← esv8]
  obtain ⟨vi9, evi9, h⟩ := h_let h
  rw [← evi9]
  obtain ⟨vl10, evl10, h⟩ := h_let h
  rw [← evl10]
  obtain ⟨b11, h⟩ := h_ob h
  refine pf_RX0_15 B rfl b11 rfl dX0_init_17 ?_
  obtain ⟨sv12, esv12, h⟩ := h_let h
  rw [← esv12]
  obtain ⟨b13, h⟩ := h_if h
  have e1 := Option.some.inj h
  obtain ⟨e1, e2⟩ := Prod.mk.inj e1
  obtain ⟨e2, e3⟩ := Prod.mk.inj e2
  subst e1
  subst e2
  subst e3
  exact j_vret B E rfl dX0_init_20 b13.1 b13.2 ⟨rfl, rfl, rfl, rfl⟩
def fX1_init (o : Nat) (sv0 : SV) (vi0 : VI) (vl0 : VL) : Option (SV × VI × VL) := if 0 + 1 ≤ 4 ∧ 0 + 40 ≤ 160 then optL (j_svn sv0 11 40) fun sv2 => optL (j_z0 vi0 sv0.1 0) fun vi3 => optL (j_z0 vl0 sv0.1 0) fun vl4 => if obB sv2 o 1 = true then optL (j_svr sv2 o 0 (sv0.1 + 1)) fun sv6 => if (0 + 1) + 1 ≤ 4 ∧ (0 + 40) + 40 ≤ 160 then optL (j_svn sv6 11 40) fun sv8 => optL (j_z0 vi3 sv6.1 0) fun vi9 => optL (j_z0 vl4 sv6.1 0) fun vl10 => if obB sv8 o 1 = true then optL (j_svr sv8 o 1 (sv6.1 + 1)) fun sv12 => if ((0 + 1) + 1) + 1 ≤ 4 ∧ ((0 + 40) + 40) + 40 ≤ 160 then optL (j_svn sv12 11 40) fun sv14 => optL (j_z0 vi9 sv12.1 0) fun vi15 => optL (j_z0 vl10 sv12.1 0) fun vl16 => if obB sv14 o 1 = true then optL (j_svr sv14 o 2 (sv12.1 + 1)) fun sv18 => if (((0 + 1) + 1) + 1) + 1 ≤ 4 ∧ (((0 + 40) + 40) + 40) + 40 ≤ 160 then optL (j_svn sv18 11 40) fun sv20 => optL (j_z0 vi15 sv18.1 0) fun vi21 => optL (j_z0 vl16 sv18.1 0) fun vl22 => if obB sv20 o 1 = true then optL (j_svr sv20 o 3 (sv18.1 + 1)) fun sv24 => if ((((0 + 1) + 1) + 1) + 1) ≤ 4 ∧ ((((0 + 40) + 40) + 40) + 40) ≤ 160 then some (sv24, vi21, vl22) else none else none else none else none else none else none else none else none else none
theorem tX1_init {G : GT} {sv0 : SV} {vi0 : VI} {vl0 : VL} {o : Nat} {sv' : SV} {vi' : VI} {vl' : VL} (h : fX1_init o sv0 vi0 vl0 = some (sv', vi', vl')) : Call G mX1_init 1 4 160 [.ref (G.1 + o)] sv0 vi0 vl0 (QV sv' vi' vl') := by
  refine j_mk (by decide +kernel) (Nat.le_of_ble_eq_true rfl) (fun Γ B E => ?_)
  show J G Γ 0 0 0 [(0, .ref (G.1 + o))] [] sv0 vi0 vl0
  unfold fX1_init at h
  refine j_aload_n B dX1_init_0 rfl 0 rfl ?_
  refine j_objInit B wl_RX1_3 w_oi w_oc (by decide) dX1_init_1 ?_
  refine j_aload_n B dX1_init_4 rfl 0 rfl ?_
  refine j_bipush B dX1_init_5 (v := 40) (by decide) ?_
  obtain ⟨b1, h⟩ := h_if h
  refine j_newa (N := 40) B (Or.inl ⟨rfl, rfl⟩) wac_11 (by decide) (by decide) (by decide) b1.1 b1.2 dX1_init_7 ?_
  obtain ⟨sv2, esv2, h⟩ := h_let h
  rw [← esv2]
  obtain ⟨vi3, evi3, h⟩ := h_let h
  rw [← evi3]
  obtain ⟨vl4, evl4, h⟩ := h_let h
  rw [← evl4]
  obtain ⟨b5, h⟩ := h_ob h
  refine pf_RX1_9 B rfl b5 rfl dX1_init_9 ?_
  obtain ⟨sv6, esv6, h⟩ := h_let h
  rw [← esv6]
  refine j_aload_n B dX1_init_12 rfl 0 rfl ?_
  refine j_bipush B dX1_init_13 (v := 40) (by decide) ?_
  obtain ⟨b7, h⟩ := h_if h
  refine j_newa (N := 40) B (Or.inl ⟨rfl, rfl⟩) wac_11 (by decide) (by decide) (by decide) b7.1 b7.2 dX1_init_15 ?_
  obtain ⟨sv8, esv8, h⟩ := h_let h
  rw [← esv8]
  obtain ⟨vi9, evi9, h⟩ := h_let h
  rw [← evi9]
  obtain ⟨vl10, evl10, h⟩ := h_let h
  rw [← evl10]
  obtain ⟨b11, h⟩ := h_ob h
  refine pf_RX1_15 B rfl b11 rfl dX1_init_17 ?_
  obtain ⟨sv12, esv12, h⟩ := h_let h
  rw [← esv12]
  refine j_aload_n B dX1_init_20 rfl 0 rfl ?_
  refine j_bipush B dX1_init_21 (v := 40) (by decide) ?_
  obtain ⟨b13, h⟩ := h_if h
  refine j_newa (N := 40) B (Or.inl ⟨rfl, rfl⟩) wac_11 (by decide) (by decide) (by decide) b13.1 b13.2 dX1_init_23 ?_
  obtain ⟨sv14, esv14, h⟩ := h_let h
  rw [← esv14]
  obtain ⟨vi15, evi15, h⟩ := h_let h
  rw [← evi15]
  obtain ⟨vl16, evl16, h⟩ := h_let h
  rw [← evl16]
  obtain ⟨b17, h⟩ := h_ob h
  refine pf_RX1_18 B rfl b17 rfl dX1_init_25 ?_
  obtain ⟨sv18, esv18, h⟩ := h_let h
  rw [← esv18]
  refine j_aload_n B dX1_init_28 rfl 0 rfl ?_
  refine j_bipush B dX1_init_29 (v := 40) (by decide) ?_
  obtain ⟨b19, h⟩ := h_if h
  refine j_newa (N := 40) B (Or.inl ⟨rfl, rfl⟩) wac_11 (by decide) (by decide) (by decide) b19.1 b19.2 dX1_init_31 ?_
  obtain ⟨sv20, esv20, h⟩ := h_let h
  rw [← esv20]
  obtain ⟨vi21, evi21, h⟩ := h_let h
  rw [← evi21]
  obtain ⟨vl22, evl22, h⟩ := h_let h
  rw [← evl22]
  obtain ⟨b23, h⟩ := h_ob h
  refine pf_RX1_21 B rfl b23 rfl dX1_init_33 ?_
  obtain ⟨sv24, esv24, h⟩ := h_let h
  rw [← esv24]
  obtain ⟨b25, h⟩ := h_if h
  have e1 := Option.some.inj h
  obtain ⟨e1, e2⟩ := Prod.mk.inj e1
  obtain ⟨e2, e3⟩ := Prod.mk.inj e2
  subst e1
  subst e2
  subst e3
  exact j_vret B E rfl dX1_init_36 b25.1 b25.2 ⟨rfl, rfl, rfl, rfl⟩
def fX2_init (o : Nat) (sv0 : SV) (vi0 : VI) (vl0 : VL) : Option (SV × VI × VL) := if 0 + 1 ≤ 5 ∧ 0 + 820 ≤ 1106 then optL (j_svn sv0 20 820) fun sv2 => optL (j_z0 vi0 sv0.1 0) fun vi3 => optL (j_z0 vl0 sv0.1 0) fun vl4 => if obB sv2 o 2 = true then optL (j_svr sv2 o 0 (sv0.1 + 1)) fun sv6 => if (0 + 1) + 1 ≤ 5 ∧ (0 + 820) + 13 ≤ 1106 then optL (j_svn sv6 11 13) fun sv8 => optL (j_z0 vi3 sv6.1 0) fun vi9 => optL (j_z0 vl4 sv6.1 0) fun vl10 => if obB sv8 o 2 = true then optL (j_svr sv8 o 1 (sv6.1 + 1)) fun sv12 => if ((0 + 1) + 1) + 1 ≤ 5 ∧ ((0 + 820) + 13) + 13 ≤ 1106 then optL (j_svn sv12 11 13) fun sv14 => optL (j_z0 vi9 sv12.1 0) fun vi15 => optL (j_z0 vl10 sv12.1 0) fun vl16 => if obB sv14 o 2 = true then optL (j_svr sv14 o 2 (sv12.1 + 1)) fun sv18 => if (((0 + 1) + 1) + 1) + 1 ≤ 5 ∧ (((0 + 820) + 13) + 13) + 130 ≤ 1106 then optL (j_svn sv18 11 130) fun sv20 => optL (j_z0 vi15 sv18.1 0) fun vi21 => optL (j_z0 vl16 sv18.1 0) fun vl22 => if obB sv20 o 2 = true then optL (j_svr sv20 o 3 (sv18.1 + 1)) fun sv24 => if ((((0 + 1) + 1) + 1) + 1) + 1 ≤ 5 ∧ ((((0 + 820) + 13) + 13) + 130) + 130 ≤ 1106 then optL (j_svn sv24 11 130) fun sv26 => optL (j_z0 vi21 sv24.1 0) fun vi27 => optL (j_z0 vl22 sv24.1 0) fun vl28 => if obB sv26 o 2 = true then optL (j_svr sv26 o 4 (sv24.1 + 1)) fun sv30 => if (((((0 + 1) + 1) + 1) + 1) + 1) ≤ 5 ∧ (((((0 + 820) + 13) + 13) + 130) + 130) ≤ 1106 then some (sv30, vi27, vl28) else none else none else none else none else none else none else none else none else none else none else none
theorem tX2_init {G : GT} {sv0 : SV} {vi0 : VI} {vl0 : VL} {o : Nat} {sv' : SV} {vi' : VI} {vl' : VL} (h : fX2_init o sv0 vi0 vl0 = some (sv', vi', vl')) : Call G mX2_init 1 5 1106 [.ref (G.1 + o)] sv0 vi0 vl0 (QV sv' vi' vl') := by
  refine j_mk (by decide +kernel) (Nat.le_of_ble_eq_true rfl) (fun Γ B E => ?_)
  show J G Γ 0 0 0 [(0, .ref (G.1 + o))] [] sv0 vi0 vl0
  unfold fX2_init at h
  refine j_aload_n B dX2_init_0 rfl 0 rfl ?_
  refine j_objInit B wl_RX2_5 w_oi w_oc (by decide) dX2_init_1 ?_
  refine j_aload_n B dX2_init_4 rfl 0 rfl ?_
  refine j_sipush B dX2_init_5 (v := 820) (by decide) ?_
  obtain ⟨b1, h⟩ := h_if h
  refine j_newa (N := 820) B (Or.inr (Or.inr (Or.inr ⟨rfl, rfl⟩))) wac_20 (by decide) (by decide) (by decide) b1.1 b1.2 dX2_init_8 ?_
  obtain ⟨sv2, esv2, h⟩ := h_let h
  rw [← esv2]
  obtain ⟨vi3, evi3, h⟩ := h_let h
  rw [← evi3]
  obtain ⟨vl4, evl4, h⟩ := h_let h
  rw [← evl4]
  obtain ⟨b5, h⟩ := h_ob h
  refine pf_RX2_11 B rfl b5 rfl dX2_init_10 ?_
  obtain ⟨sv6, esv6, h⟩ := h_let h
  rw [← esv6]
  refine j_aload_n B dX2_init_13 rfl 0 rfl ?_
  refine j_bipush B dX2_init_14 (v := 13) (by decide) ?_
  obtain ⟨b7, h⟩ := h_if h
  refine j_newa (N := 13) B (Or.inl ⟨rfl, rfl⟩) wac_11 (by decide) (by decide) (by decide) b7.1 b7.2 dX2_init_16 ?_
  obtain ⟨sv8, esv8, h⟩ := h_let h
  rw [← esv8]
  obtain ⟨vi9, evi9, h⟩ := h_let h
  rw [← evi9]
  obtain ⟨vl10, evl10, h⟩ := h_let h
  rw [← evl10]
  obtain ⟨b11, h⟩ := h_ob h
  refine pf_RX2_15 B rfl b11 rfl dX2_init_18 ?_
  obtain ⟨sv12, esv12, h⟩ := h_let h
  rw [← esv12]
  refine j_aload_n B dX2_init_21 rfl 0 rfl ?_
  refine j_bipush B dX2_init_22 (v := 13) (by decide) ?_
  obtain ⟨b13, h⟩ := h_if h
  refine j_newa (N := 13) B (Or.inl ⟨rfl, rfl⟩) wac_11 (by decide) (by decide) (by decide) b13.1 b13.2 dX2_init_24 ?_
  obtain ⟨sv14, esv14, h⟩ := h_let h
  rw [← esv14]
  obtain ⟨vi15, evi15, h⟩ := h_let h
  rw [← evi15]
  obtain ⟨vl16, evl16, h⟩ := h_let h
  rw [← evl16]
  obtain ⟨b17, h⟩ := h_ob h
  refine pf_RX2_19 B rfl b17 rfl dX2_init_26 ?_
  obtain ⟨sv18, esv18, h⟩ := h_let h
  rw [← esv18]
  refine j_aload_n B dX2_init_29 rfl 0 rfl ?_
  refine j_sipush B dX2_init_30 (v := 130) (by decide) ?_
  obtain ⟨b19, h⟩ := h_if h
  refine j_newa (N := 130) B (Or.inl ⟨rfl, rfl⟩) wac_11 (by decide) (by decide) (by decide) b19.1 b19.2 dX2_init_33 ?_
  obtain ⟨sv20, esv20, h⟩ := h_let h
  rw [← esv20]
  obtain ⟨vi21, evi21, h⟩ := h_let h
  rw [← evi21]
  obtain ⟨vl22, evl22, h⟩ := h_let h
  rw [← evl22]
  obtain ⟨b23, h⟩ := h_ob h
  refine pf_RX2_22 B rfl b23 rfl dX2_init_35 ?_
  obtain ⟨sv24, esv24, h⟩ := h_let h
  rw [← esv24]
  refine j_aload_n B dX2_init_38 rfl 0 rfl ?_
  refine j_sipush B dX2_init_39 (v := 130) (by decide) ?_
  obtain ⟨b25, h⟩ := h_if h
  refine j_newa (N := 130) B (Or.inl ⟨rfl, rfl⟩) wac_11 (by decide) (by decide) (by decide) b25.1 b25.2 dX2_init_42 ?_
  obtain ⟨sv26, esv26, h⟩ := h_let h
  rw [← esv26]
  obtain ⟨vi27, evi27, h⟩ := h_let h
  rw [← evi27]
  obtain ⟨vl28, evl28, h⟩ := h_let h
  rw [← evl28]
  obtain ⟨b29, h⟩ := h_ob h
  refine pf_RX2_25 B rfl b29 rfl dX2_init_44 ?_
  obtain ⟨sv30, esv30, h⟩ := h_let h
  rw [← esv30]
  obtain ⟨b31, h⟩ := h_if h
  have e1 := Option.some.inj h
  obtain ⟨e1, e2⟩ := Prod.mk.inj e1
  obtain ⟨e2, e3⟩ := Prod.mk.inj e2
  subst e1
  subst e2
  subst e3
  exact j_vret B E rfl dX2_init_47 b31.1 b31.2 ⟨rfl, rfl, rfl, rfl⟩
def fX5_init (o : Nat) (sv0 : SV) (vi0 : VI) (vl0 : VL) : Option (SV × VI × VL) := if 0 + 1 ≤ 3 ∧ 0 + 121 ≤ 248 then optL (j_svn sv0 11 121) fun sv2 => optL (j_z0 vi0 sv0.1 0) fun vi3 => optL (j_z0 vl0 sv0.1 0) fun vl4 => if obB sv2 o 5 = true then optL (j_svr sv2 o 0 (sv0.1 + 1)) fun sv6 => if (0 + 1) + 1 ≤ 3 ∧ (0 + 121) + 6 ≤ 248 then optL (j_svn sv6 11 6) fun sv8 => optL (j_z0 vi3 sv6.1 0) fun vi9 => optL (j_z0 vl4 sv6.1 0) fun vl10 => if obB sv8 o 5 = true then optL (j_svr sv8 o 3 (sv6.1 + 1)) fun sv12 => if ((0 + 1) + 1) + 1 ≤ 3 ∧ ((0 + 121) + 6) + 121 ≤ 248 then optL (j_svn sv12 11 121) fun sv14 => optL (j_z0 vi9 sv12.1 0) fun vi15 => optL (j_z0 vl10 sv12.1 0) fun vl16 => if obB sv14 o 5 = true then optL (j_svr sv14 o 4 (sv12.1 + 1)) fun sv18 => if (((0 + 1) + 1) + 1) ≤ 3 ∧ (((0 + 121) + 6) + 121) ≤ 248 then some (sv18, vi15, vl16) else none else none else none else none else none else none else none
theorem tX5_init {G : GT} {sv0 : SV} {vi0 : VI} {vl0 : VL} {o : Nat} {sv' : SV} {vi' : VI} {vl' : VL} (h : fX5_init o sv0 vi0 vl0 = some (sv', vi', vl')) : Call G mX5_init 1 3 248 [.ref (G.1 + o)] sv0 vi0 vl0 (QV sv' vi' vl') := by
  refine j_mk (by decide +kernel) (Nat.le_of_ble_eq_true rfl) (fun Γ B E => ?_)
  show J G Γ 0 0 0 [(0, .ref (G.1 + o))] [] sv0 vi0 vl0
  unfold fX5_init at h
  refine j_aload_n B dX5_init_0 rfl 0 rfl ?_
  refine j_objInit B wl_RX5_5 w_oi w_oc (by decide) dX5_init_1 ?_
  refine j_aload_n B dX5_init_4 rfl 0 rfl ?_
  refine j_bipush B dX5_init_5 (v := 121) (by decide) ?_
  obtain ⟨b1, h⟩ := h_if h
  refine j_newa (N := 121) B (Or.inl ⟨rfl, rfl⟩) wac_11 (by decide) (by decide) (by decide) b1.1 b1.2 dX5_init_7 ?_
  obtain ⟨sv2, esv2, h⟩ := h_let h
  rw [← esv2]
  obtain ⟨vi3, evi3, h⟩ := h_let h
  rw [← evi3]
  obtain ⟨vl4, evl4, h⟩ := h_let h
  rw [← evl4]
  obtain ⟨b5, h⟩ := h_ob h
  refine pf_RX5_11 B rfl b5 rfl dX5_init_9 ?_
  obtain ⟨sv6, esv6, h⟩ := h_let h
  rw [← esv6]
  refine j_aload_n B dX5_init_12 rfl 0 rfl ?_
  refine j_bipush B dX5_init_13 (v := 6) (by decide) ?_
  obtain ⟨b7, h⟩ := h_if h
  refine j_newa (N := 6) B (Or.inl ⟨rfl, rfl⟩) wac_11 (by decide) (by decide) (by decide) b7.1 b7.2 dX5_init_15 ?_
  obtain ⟨sv8, esv8, h⟩ := h_let h
  rw [← esv8]
  obtain ⟨vi9, evi9, h⟩ := h_let h
  rw [← evi9]
  obtain ⟨vl10, evl10, h⟩ := h_let h
  rw [← evl10]
  obtain ⟨b11, h⟩ := h_ob h
  refine pf_RX5_15 B rfl b11 rfl dX5_init_17 ?_
  obtain ⟨sv12, esv12, h⟩ := h_let h
  rw [← esv12]
  refine j_aload_n B dX5_init_20 rfl 0 rfl ?_
  refine j_bipush B dX5_init_21 (v := 121) (by decide) ?_
  obtain ⟨b13, h⟩ := h_if h
  refine j_newa (N := 121) B (Or.inl ⟨rfl, rfl⟩) wac_11 (by decide) (by decide) (by decide) b13.1 b13.2 dX5_init_23 ?_
  obtain ⟨sv14, esv14, h⟩ := h_let h
  rw [← esv14]
  obtain ⟨vi15, evi15, h⟩ := h_let h
  rw [← evi15]
  obtain ⟨vl16, evl16, h⟩ := h_let h
  rw [← evl16]
  obtain ⟨b17, h⟩ := h_ob h
  refine pf_RX5_18 B rfl b17 rfl dX5_init_25 ?_
  obtain ⟨sv18, esv18, h⟩ := h_let h
  rw [← esv18]
  obtain ⟨b19, h⟩ := h_if h
  have e1 := Option.some.inj h
  obtain ⟨e1, e2⟩ := Prod.mk.inj e1
  obtain ⟨e2, e3⟩ := Prod.mk.inj e2
  subst e1
  subst e2
  subst e3
  exact j_vret B E rfl dX5_init_28 b19.1 b19.2 ⟨rfl, rfl, rfl, rfl⟩
def fX6_init (o : Nat) (sv0 : SV) (vi0 : VI) (vl0 : VL) : Option (SV × VI × VL) := if 0 + 1 ≤ 1 ∧ 0 + 60 ≤ 60 then optL (j_svn sv0 20 60) fun sv2 => optL (j_z0 vi0 sv0.1 0) fun vi3 => optL (j_z0 vl0 sv0.1 0) fun vl4 => if obB sv2 o 6 = true then optL (j_svr sv2 o 4 (sv0.1 + 1)) fun sv6 => if (0 + 1) ≤ 1 ∧ (0 + 60) ≤ 60 then some (sv6, vi3, vl4) else none else none else none
theorem tX6_init {G : GT} {sv0 : SV} {vi0 : VI} {vl0 : VL} {o : Nat} {sv' : SV} {vi' : VI} {vl' : VL} (h : fX6_init o sv0 vi0 vl0 = some (sv', vi', vl')) : Call G mX6_init 1 1 60 [.ref (G.1 + o)] sv0 vi0 vl0 (QV sv' vi' vl') := by
  refine j_mk (by decide +kernel) (Nat.le_of_ble_eq_true rfl) (fun Γ B E => ?_)
  show J G Γ 0 0 0 [(0, .ref (G.1 + o))] [] sv0 vi0 vl0
  unfold fX6_init at h
  refine j_aload_n B dX6_init_0 rfl 0 rfl ?_
  refine j_objInit B wl_RX6_3 w_oi w_oc (by decide) dX6_init_1 ?_
  refine j_aload_n B dX6_init_4 rfl 0 rfl ?_
  refine j_bipush B dX6_init_5 (v := 60) (by decide) ?_
  obtain ⟨b1, h⟩ := h_if h
  refine j_newa (N := 60) B (Or.inr (Or.inr (Or.inr ⟨rfl, rfl⟩))) wac_20 (by decide) (by decide) (by decide) b1.1 b1.2 dX6_init_7 ?_
  obtain ⟨sv2, esv2, h⟩ := h_let h
  rw [← esv2]
  obtain ⟨vi3, evi3, h⟩ := h_let h
  rw [← evi3]
  obtain ⟨vl4, evl4, h⟩ := h_let h
  rw [← evl4]
  obtain ⟨b5, h⟩ := h_ob h
  refine pf_RX6_9 B rfl b5 rfl dX6_init_9 ?_
  obtain ⟨sv6, esv6, h⟩ := h_let h
  rw [← esv6]
  obtain ⟨b7, h⟩ := h_if h
  have e1 := Option.some.inj h
  obtain ⟨e1, e2⟩ := Prod.mk.inj e1
  obtain ⟨e2, e3⟩ := Prod.mk.inj e2
  subst e1
  subst e2
  subst e3
  exact j_vret B E rfl dX6_init_12 b7.1 b7.2 ⟨rfl, rfl, rfl, rfl⟩
def fX8_init (o : Nat) (sv0 : SV) (vi0 : VI) (vl0 : VL) : Option (SV × VI × VL) := if 0 + 1 ≤ 1 ∧ 0 + 120 ≤ 120 then optL (j_svn sv0 11 120) fun sv2 => optL (j_z0 vi0 sv0.1 0) fun vi3 => optL (j_z0 vl0 sv0.1 0) fun vl4 => if obB sv2 o 8 = true then optL (j_svr sv2 o 0 (sv0.1 + 1)) fun sv6 => if (0 + 1) ≤ 1 ∧ (0 + 120) ≤ 120 then some (sv6, vi3, vl4) else none else none else none
theorem tX8_init {G : GT} {sv0 : SV} {vi0 : VI} {vl0 : VL} {o : Nat} {sv' : SV} {vi' : VI} {vl' : VL} (h : fX8_init o sv0 vi0 vl0 = some (sv', vi', vl')) : Call G mX8_init 1 1 120 [.ref (G.1 + o)] sv0 vi0 vl0 (QV sv' vi' vl') := by
  refine j_mk (by decide +kernel) (Nat.le_of_ble_eq_true rfl) (fun Γ B E => ?_)
  show J G Γ 0 0 0 [(0, .ref (G.1 + o))] [] sv0 vi0 vl0
  unfold fX8_init at h
  refine j_aload_n B dX8_init_0 rfl 0 rfl ?_
  refine j_objInit B wl_RX8_3 w_oi w_oc (by decide) dX8_init_1 ?_
  refine j_aload_n B dX8_init_4 rfl 0 rfl ?_
  refine j_bipush B dX8_init_5 (v := 120) (by decide) ?_
  obtain ⟨b1, h⟩ := h_if h
  refine j_newa (N := 120) B (Or.inl ⟨rfl, rfl⟩) wac_11 (by decide) (by decide) (by decide) b1.1 b1.2 dX8_init_7 ?_
  obtain ⟨sv2, esv2, h⟩ := h_let h
  rw [← esv2]
  obtain ⟨vi3, evi3, h⟩ := h_let h
  rw [← evi3]
  obtain ⟨vl4, evl4, h⟩ := h_let h
  rw [← evl4]
  obtain ⟨b5, h⟩ := h_ob h
  refine pf_RX8_9 B rfl b5 rfl dX8_init_9 ?_
  obtain ⟨sv6, esv6, h⟩ := h_let h
  rw [← esv6]
  obtain ⟨b7, h⟩ := h_if h
  have e1 := Option.some.inj h
  obtain ⟨e1, e2⟩ := Prod.mk.inj e1
  obtain ⟨e2, e3⟩ := Prod.mk.inj e2
  subst e1
  subst e2
  subst e3
  exact j_vret B E rfl dX8_init_12 b7.1 b7.2 ⟨rfl, rfl, rfl, rfl⟩
def fX4_init_21 (o : Nat) : Nat → Int32 → SV → VI → VL → Nat → Nat → Option (SV × VI × VL)
  | 0, _, _, _, _, _, _ => none
  | F + 1, x1, sv, vi, vl, cs, ss => if 5 ≤ x1 then if cs ≤ 17 ∧ ss ≤ 145 then some (sv, vi, vl) else none else if obB sv o 4 = true then if 0 < sv.2.2.2 o 0 then if cs + 1 ≤ 17 ∧ ss + 3 ≤ 145 then optL (j_svn sv 3 3) fun sv17 => optL (j_z0 vi sv.1 0) fun vi18 => optL (j_z0 vl sv.1 0) fun vl19 => if (cs + 1) + 2 ≤ 17 ∧ (ss + 3) + 24 ≤ 145 then (fX3_init sv.1 sv17 vi18 vl19).bind fun r20 => if arB r20.1 (sv.2.2.2 o 0 - 1) 21 5 = true then if inb x1 5 = true then if obB r20.1 sv.1 3 = true then optL (j_svr r20.1 (sv.2.2.2 o 0 - 1) x1.toNatClampNeg (sv.1 + 1)) fun sv28 => fX4_init_21 o F (x1 + 1) sv28 r20.2.1 r20.2.2 ((cs + 1) + 2) ((ss + 3) + 24) else none else none else none else none else none else none else none
theorem tX4_init_21 {G : GT} {Γ : CT} {o : Nat} {sv' : SV} {vi' : VI} {vl' : VL} (B : Base G Γ mX4_init 2 17 145) (E : Ends G Γ 17 145 (QV sv' vi' vl')) : ∀ (F : Nat) (x1 : Int32) (sv : SV) (vi : VI) (vl : VL) (cs : Nat) (ss : Nat), fX4_init_21 o F x1 sv vi vl cs ss = some (sv', vi', vl') → J G Γ cs ss 21 [(0, .ref (G.1 + o)), (1, .int x1)] [] sv vi vl := by
  intro F
  induction F with
  | zero =>
    intro x1 sv vi vl cs ss h
    cases (show (none : Option (SV × VI × VL)) = some (sv', vi', vl') from h)
  | succ F ih =>
    intro x1 sv vi vl cs ss h
    rw [fX4_init_21] at h
    refine j_iload_n B dX4_init_21 rfl 1 rfl ?_
    refine j_iconst B dX4_init_22 (v := 5) (by decide) ?_
    refine j_icmp_ge (tgt := 45) B dX4_init_23 (by decide) (fun c => ?_) (fun c => ?_)
    · replace h := h_pos c h
      obtain ⟨b13, h⟩ := h_if h
      have e1 := Option.some.inj h
      obtain ⟨e1, e2⟩ := Prod.mk.inj e1
      obtain ⟨e2, e3⟩ := Prod.mk.inj e2
      subst e1
      subst e2
      subst e3
      exact j_vret B E rfl dX4_init_45 b13.1 b13.2 ⟨rfl, rfl, rfl, rfl⟩
    · replace h := h_neg c h
      refine j_aload_n B dX4_init_26 rfl 0 rfl ?_
      obtain ⟨b14, h⟩ := h_ob h
      obtain ⟨b15, h⟩ := h_if h
      refine gf_RX4_11 B rfl b14 (nz_eq b15) dX4_init_27 ?_
      refine j_iload_n B dX4_init_30 rfl 1 rfl ?_
      obtain ⟨b16, h⟩ := h_if h
      refine j_new B cls3 hdef3 wcl_RX4_9 wins_RX3 wini_RX3 b16.1 b16.2 dX4_init_31 ?_
      obtain ⟨sv17, esv17, h⟩ := h_let h
      rw [← esv17]
      obtain ⟨vi18, evi18, h⟩ := h_let h
      rw [← evi18]
      obtain ⟨vl19, evl19, h⟩ := h_let h
      rw [← evl19]
      refine j_dup B dX4_init_34 rfl ?_
      obtain ⟨b21, h⟩ := h_if h
      obtain ⟨r20, hr20, h⟩ := h_bind h
      refine j_cN (rest := [.ref (G.1 + sv.1), .int x1, .ref (G.1 + (sv.2.2.2 o 0 - 1))]) B (tX3_init hr20) ⟨rfl, rfl⟩ (host := "DustInOrder") (by decide +kernel) wc_X3_init wini_RX3 (by decide +kernel) (by decide) wi_X3_init rfl (by decide) b21.1 b21.2 rfl (Nat.le_of_ble_eq_true rfl) dX4_init_35 ?_
      obtain ⟨b25, h⟩ := h_ar h
      obtain ⟨b26, h⟩ := h_inb h
      obtain ⟨b27, h⟩ := h_ob h
      refine j_aast B b25 (Or.inl ⟨rfl, rfl⟩) b27 b26 dX4_init_38 ?_
      obtain ⟨sv28, esv28, h⟩ := h_let h
      rw [← esv28]
      refine j_iinc (v := (x1 + 1)) (L' := [(1, .int (x1 + 1)), (0, .ref (G.1 + o))]) B dX4_init_39 1 rfl rfl (by decide) rfl ?_
      refine j_goto (tgt := 21) B dX4_init_42 (by decide) ?_
      refine j_locals [1, 0] rfl ?_
      exact ih ((x1 + 1)) (sv28) (r20.2.1) (r20.2.2) (((cs + 1) + 2)) (((ss + 3) + 24))  h
def fX4_init (o : Nat) (sv0 : SV) (vi0 : VI) (vl0 : VL) : Option (SV × VI × VL) := if 0 + 1 ≤ 17 ∧ 0 + 5 ≤ 145 then optL (j_svn sv0 21 5) fun sv2 => optL (j_z0 vi0 sv0.1 0) fun vi3 => optL (j_z0 vl0 sv0.1 0) fun vl4 => if obB sv2 o 4 = true then optL (j_svr sv2 o 0 (sv0.1 + 1)) fun sv6 => if (0 + 1) + 1 ≤ 17 ∧ (0 + 5) + 5 ≤ 145 then optL (j_svn sv6 11 5) fun sv8 => optL (j_z0 vi3 sv6.1 0) fun vi9 => optL (j_z0 vl4 sv6.1 0) fun vl10 => if obB sv8 o 4 = true then optL (j_svr sv8 o 1 (sv6.1 + 1)) fun sv12 => fX4_init_21 o FU 0 sv12 vi9 vl10 ((0 + 1) + 1) ((0 + 5) + 5) else none else none else none else none
theorem tX4_init {G : GT} {sv0 : SV} {vi0 : VI} {vl0 : VL} {o : Nat} {sv' : SV} {vi' : VI} {vl' : VL} (h : fX4_init o sv0 vi0 vl0 = some (sv', vi', vl')) : Call G mX4_init 2 17 145 [.ref (G.1 + o)] sv0 vi0 vl0 (QV sv' vi' vl') := by
  refine j_mk (by decide +kernel) (Nat.le_of_ble_eq_true rfl) (fun Γ B E => ?_)
  show J G Γ 0 0 0 [(0, .ref (G.1 + o))] [] sv0 vi0 vl0
  unfold fX4_init at h
  refine j_aload_n B dX4_init_0 rfl 0 rfl ?_
  refine j_objInit B wl_RX4_3 w_oi w_oc (by decide) dX4_init_1 ?_
  refine j_aload_n B dX4_init_4 rfl 0 rfl ?_
  refine j_iconst B dX4_init_5 (v := 5) (by decide) ?_
  obtain ⟨b1, h⟩ := h_if h
  refine j_anewa (N := 5) B (Or.inl ⟨rfl, rfl⟩) wcl_RX4_9 (by decide) (by decide) (by decide) b1.1 b1.2 dX4_init_6 ?_
  obtain ⟨sv2, esv2, h⟩ := h_let h
  rw [← esv2]
  obtain ⟨vi3, evi3, h⟩ := h_let h
  rw [← evi3]
  obtain ⟨vl4, evl4, h⟩ := h_let h
  rw [← evl4]
  obtain ⟨b5, h⟩ := h_ob h
  refine pf_RX4_11 B rfl b5 rfl dX4_init_9 ?_
  obtain ⟨sv6, esv6, h⟩ := h_let h
  rw [← esv6]
  refine j_aload_n B dX4_init_12 rfl 0 rfl ?_
  refine j_iconst B dX4_init_13 (v := 5) (by decide) ?_
  obtain ⟨b7, h⟩ := h_if h
  refine j_newa (N := 5) B (Or.inl ⟨rfl, rfl⟩) wac_11 (by decide) (by decide) (by decide) b7.1 b7.2 dX4_init_14 ?_
  obtain ⟨sv8, esv8, h⟩ := h_let h
  rw [← esv8]
  obtain ⟨vi9, evi9, h⟩ := h_let h
  rw [← evi9]
  obtain ⟨vl10, evl10, h⟩ := h_let h
  rw [← evl10]
  obtain ⟨b11, h⟩ := h_ob h
  refine pf_RX4_17 B rfl b11 rfl dX4_init_16 ?_
  obtain ⟨sv12, esv12, h⟩ := h_let h
  rw [← esv12]
  refine j_iconst B dX4_init_19 (v := 0) (by decide) ?_
  refine j_istore_n (L' := [(1, .int 0), (0, .ref (G.1 + o))]) B dX4_init_20 rfl (by decide) rfl ?_
  refine j_locals [1, 0] rfl ?_
  exact tX4_init_21 B E  FU (0) (sv12) (vi9) (vl10) (((0 + 1) + 1)) (((0 + 5) + 5))  h
def fX7_init (o : Nat) (x1 : Nat) (x2 : Int32) (x3 : Int32) (sv0 : SV) (vi0 : VI) (vl0 : VL) : Option (SV × VI × VL) := if 0 + 1 ≤ 4 ∧ 0 + 3 ≤ 807 then optL (j_svn sv0 3 3) fun sv2 => optL (j_z0 vi0 sv0.1 0) fun vi3 => optL (j_z0 vl0 sv0.1 0) fun vl4 => if (0 + 1) + 2 ≤ 4 ∧ (0 + 3) + 24 ≤ 807 then (fX3_init sv0.1 sv2 vi3 vl4).bind fun r5 => if obB r5.1 o 7 = true then optL (j_svr r5.1 o 1 (sv0.1 + 1)) fun sv11 => if ((0 + 1) + 2) + 1 ≤ 4 ∧ ((0 + 3) + 24) + 780 ≤ 807 then optL (j_svn sv11 12 780) fun sv13 => optL (j_z0 r5.2.1 sv11.1 0) fun vi14 => optL (j_z0 r5.2.2 sv11.1 0) fun vl15 => if obB sv13 o 7 = true then optL (j_svr sv13 o 2 (sv11.1 + 1)) fun sv17 => if obB sv17 o 7 = true then optL (j_svr sv17 o 0 (x1 + 1)) fun sv19 => if obB sv19 o 7 = true then if obB sv19 o 7 = true then if (((0 + 1) + 2) + 1) ≤ 4 ∧ (((0 + 3) + 24) + 780) ≤ 807 then some (sv19, (j_up (j_up vi14 o 3 x2) o 4 x3), vl15) else none else none else none else none else none else none else none else none else none
theorem tX7_init {G : GT} {sv0 : SV} {vi0 : VI} {vl0 : VL} {o : Nat} {x1 : Nat} {x2 : Int32} {x3 : Int32} {sv' : SV} {vi' : VI} {vl' : VL} (h : fX7_init o x1 x2 x3 sv0 vi0 vl0 = some (sv', vi', vl')) : Call G mX7_init 2 4 807 [.ref (G.1 + o), .ref (G.1 + x1), .int x2, .int x3] sv0 vi0 vl0 (QV sv' vi' vl') := by
  refine j_mk (by decide +kernel) (Nat.le_of_ble_eq_true rfl) (fun Γ B E => ?_)
  show J G Γ 0 0 0 [(0, .ref (G.1 + o)), (1, .ref (G.1 + x1)), (2, .int x2), (3, .int x3)] [] sv0 vi0 vl0
  unfold fX7_init at h
  refine j_aload_n B dX7_init_0 rfl 0 rfl ?_
  refine j_objInit B wl_RX7_3 w_oi w_oc (by decide) dX7_init_1 ?_
  refine j_aload_n B dX7_init_4 rfl 0 rfl ?_
  obtain ⟨b1, h⟩ := h_if h
  refine j_new B cls3 hdef3 wcl_RX7_9 wins_RX3 wini_RX3 b1.1 b1.2 dX7_init_5 ?_
  obtain ⟨sv2, esv2, h⟩ := h_let h
  rw [← esv2]
  obtain ⟨vi3, evi3, h⟩ := h_let h
  rw [← evi3]
  obtain ⟨vl4, evl4, h⟩ := h_let h
  rw [← evl4]
  refine j_dup B dX7_init_8 rfl ?_
  obtain ⟨b6, h⟩ := h_if h
  obtain ⟨r5, hr5, h⟩ := h_bind h
  refine j_cN (rest := [.ref (G.1 + sv0.1), .ref (G.1 + o)]) B (tX3_init hr5) ⟨rfl, rfl⟩ (host := "DustInOrder") (by decide +kernel) wc_X3_init wini_RX3 (by decide +kernel) (by decide) wi_X3_init rfl (by decide) b6.1 b6.2 rfl (Nat.le_of_ble_eq_true rfl) dX7_init_9 ?_
  obtain ⟨b10, h⟩ := h_ob h
  refine pf_RX7_12 B rfl b10 rfl dX7_init_12 ?_
  obtain ⟨sv11, esv11, h⟩ := h_let h
  rw [← esv11]
  refine j_aload_n B dX7_init_15 rfl 0 rfl ?_
  refine j_sipush B dX7_init_16 (v := 780) (by decide) ?_
  obtain ⟨b12, h⟩ := h_if h
  refine j_newa (N := 780) B (Or.inr (Or.inl ⟨rfl, rfl⟩)) wac_12 (by decide) (by decide) (by decide) b12.1 b12.2 dX7_init_19 ?_
  obtain ⟨sv13, esv13, h⟩ := h_let h
  rw [← esv13]
  obtain ⟨vi14, evi14, h⟩ := h_let h
  rw [← evi14]
  obtain ⟨vl15, evl15, h⟩ := h_let h
  rw [← evl15]
  obtain ⟨b16, h⟩ := h_ob h
  refine pf_RX7_18 B rfl b16 rfl dX7_init_21 ?_
  obtain ⟨sv17, esv17, h⟩ := h_let h
  rw [← esv17]
  refine j_aload_n B dX7_init_24 rfl 0 rfl ?_
  refine j_aload_n B dX7_init_25 rfl 1 rfl ?_
  obtain ⟨b18, h⟩ := h_ob h
  refine pf_RX7_22 B rfl b18 rfl dX7_init_26 ?_
  obtain ⟨sv19, esv19, h⟩ := h_let h
  rw [← esv19]
  refine j_aload_n B dX7_init_29 rfl 0 rfl ?_
  refine j_iload_n B dX7_init_30 rfl 2 rfl ?_
  obtain ⟨b20, h⟩ := h_ob h
  refine pf_RX7_26 B rfl b20 dX7_init_31 ?_
  refine j_aload_n B dX7_init_34 rfl 0 rfl ?_
  refine j_iload_n B dX7_init_35 rfl 3 rfl ?_
  obtain ⟨b21, h⟩ := h_ob h
  refine pf_RX7_30 B rfl b21 dX7_init_36 ?_
  obtain ⟨b22, h⟩ := h_if h
  have e1 := Option.some.inj h
  obtain ⟨e1, e2⟩ := Prod.mk.inj e1
  obtain ⟨e2, e3⟩ := Prod.mk.inj e2
  subst e1
  subst e2
  subst e3
  exact j_vret B E rfl dX7_init_39 b22.1 b22.2 ⟨rfl, rfl, rfl, rfl⟩
def fX9_init_143 (o : Nat) : Nat → Int32 → SV → VI → VL → Nat → Nat → Option (SV × VI × VL)
  | 0, _, _, _, _, _, _ => none
  | F + 1, x1, sv, vi, vl, cs, ss => if 6 ≤ x1 then if cs ≤ 62 ∧ ss ≤ 2746 then some (sv, vi, vl) else none else if obB sv o 9 = true then if 0 < sv.2.2.2 o 13 then if cs + 1 ≤ 62 ∧ ss + 5 ≤ 2746 then optL (j_svn sv 6 5) fun sv128 => optL (j_z0 vi sv.1 0) fun vi129 => optL (j_z0 vl sv.1 0) fun vl130 => if (cs + 1) + 1 ≤ 62 ∧ (ss + 5) + 60 ≤ 2746 then (fX6_init sv.1 sv128 vi129 vl130).bind fun r131 => if arB r131.1 (sv.2.2.2 o 13 - 1) 22 6 = true then if inb x1 6 = true then if obB r131.1 sv.1 6 = true then optL (j_svr r131.1 (sv.2.2.2 o 13 - 1) x1.toNatClampNeg (sv.1 + 1)) fun sv139 => fX9_init_143 o F (x1 + 1) sv139 r131.2.1 r131.2.2 ((cs + 1) + 1) ((ss + 5) + 60) else none else none else none else none else none else none else none
theorem tX9_init_143 {G : GT} {Γ : CT} {o : Nat} {sv' : SV} {vi' : VI} {vl' : VL} (B : Base G Γ mX9_init 3 62 2746) (E : Ends G Γ 62 2746 (QV sv' vi' vl')) : ∀ (F : Nat) (x1 : Int32) (sv : SV) (vi : VI) (vl : VL) (cs : Nat) (ss : Nat), fX9_init_143 o F x1 sv vi vl cs ss = some (sv', vi', vl') → J G Γ cs ss 143 [(0, .ref (G.1 + o)), (1, .int x1)] [] sv vi vl := by
  intro F
  induction F with
  | zero =>
    intro x1 sv vi vl cs ss h
    cases (show (none : Option (SV × VI × VL)) = some (sv', vi', vl') from h)
  | succ F ih =>
    intro x1 sv vi vl cs ss h
    rw [fX9_init_143] at h
    refine j_iload_n B dX9_init_143 rfl 1 rfl ?_
    refine j_bipush B dX9_init_144 (v := 6) (by decide) ?_
    refine j_icmp_ge (tgt := 168) B dX9_init_146 (by decide) (fun c => ?_) (fun c => ?_)
    · replace h := h_pos c h
      obtain ⟨b124, h⟩ := h_if h
      have e1 := Option.some.inj h
      obtain ⟨e1, e2⟩ := Prod.mk.inj e1
      obtain ⟨e2, e3⟩ := Prod.mk.inj e2
      subst e1
      subst e2
      subst e3
      exact j_vret B E rfl dX9_init_168 b124.1 b124.2 ⟨rfl, rfl, rfl, rfl⟩
    · replace h := h_neg c h
      refine j_aload_n B dX9_init_149 rfl 0 rfl ?_
      obtain ⟨b125, h⟩ := h_ob h
      obtain ⟨b126, h⟩ := h_if h
      refine gf_RX9_79 B rfl b125 (nz_eq b126) dX9_init_150 ?_
      refine j_iload_n B dX9_init_153 rfl 1 rfl ?_
      obtain ⟨b127, h⟩ := h_if h
      refine j_new B cls6 hdef6 wcl_RX9_77 wins_RX6 wini_RX6 b127.1 b127.2 dX9_init_154 ?_
      obtain ⟨sv128, esv128, h⟩ := h_let h
      rw [← esv128]
      obtain ⟨vi129, evi129, h⟩ := h_let h
      rw [← evi129]
      obtain ⟨vl130, evl130, h⟩ := h_let h
      rw [← evl130]
      refine j_dup B dX9_init_157 rfl ?_
      obtain ⟨b132, h⟩ := h_if h
      obtain ⟨r131, hr131, h⟩ := h_bind h
      refine j_cN (rest := [.ref (G.1 + sv.1), .int x1, .ref (G.1 + (sv.2.2.2 o 13 - 1))]) B (tX6_init hr131) ⟨rfl, rfl⟩ (host := "DustInOrder") (by decide +kernel) wc_X6_init wini_RX6 (by decide +kernel) (by decide) wi_X6_init rfl (by decide) b132.1 b132.2 rfl (Nat.le_of_ble_eq_true rfl) dX9_init_158 ?_
      obtain ⟨b136, h⟩ := h_ar h
      obtain ⟨b137, h⟩ := h_inb h
      obtain ⟨b138, h⟩ := h_ob h
      refine j_aast B b136 (Or.inr (Or.inl ⟨rfl, rfl⟩)) b138 b137 dX9_init_161 ?_
      obtain ⟨sv139, esv139, h⟩ := h_let h
      rw [← esv139]
      refine j_iinc (v := (x1 + 1)) (L' := [(1, .int (x1 + 1)), (0, .ref (G.1 + o))]) B dX9_init_162 1 rfl rfl (by decide) rfl ?_
      refine j_goto (tgt := 143) B dX9_init_165 (by decide) ?_
      refine j_locals [1, 0] rfl ?_
      exact ih ((x1 + 1)) (sv139) (r131.2.1) (r131.2.2) (((cs + 1) + 1)) (((ss + 5) + 60))  h
def fX9_init_133 (o : Nat) (sv : SV) (vi : VI) (vl : VL) (cs : Nat) (ss : Nat) : Option (SV × VI × VL) := if obB sv o 9 = true then if 0 < sv.2.2.2 o 2 then if arB sv (sv.2.2.2 o 2 - 1) 11 6 = true then if cs ≤ 62 ∧ ss ≤ 2746 then (fJ7_fill_53178 (sv.2.2.2 o 2 - 1) 6 5 vi).bind fun r121 => fX9_init_143 o FU 0 sv r121 vl cs ss else none else none else none else none
theorem tX9_init_133 {G : GT} {Γ : CT} {o : Nat} {sv' : SV} {vi' : VI} {vl' : VL} (B : Base G Γ mX9_init 3 62 2746) (E : Ends G Γ 62 2746 (QV sv' vi' vl')) : ∀ (sv : SV) (vi : VI) (vl : VL) (cs : Nat) (ss : Nat), fX9_init_133 o sv vi vl cs ss = some (sv', vi', vl') → J G Γ cs ss 133 [(0, .ref (G.1 + o))] [] sv vi vl := by
  intro sv vi vl cs ss h
  unfold fX9_init_133 at h
  refine j_aload_n B dX9_init_133 rfl 0 rfl ?_
  obtain ⟨b119, h⟩ := h_ob h
  obtain ⟨b120, h⟩ := h_if h
  refine gf_RX9_15 B rfl b119 (nz_eq b120) dX9_init_134 ?_
  refine j_iconst B dX9_init_137 (v := 5) (by decide) ?_
  obtain ⟨b123, h⟩ := h_ar h
  obtain ⟨b122, h⟩ := h_if h
  obtain ⟨r121, hr121, h⟩ := h_bind h
  refine j_cSV (rest := []) B (tJ7_fill_53178 b123 hr121) jt_RX9_83 wst_J7_fill_53178 rfl (by decide) b122.1 b122.2 rfl (Nat.le_of_ble_eq_true rfl) dX9_init_138 ?_
  refine j_iconst B dX9_init_141 (v := 0) (by decide) ?_
  refine j_istore_n (L' := [(1, .int 0), (0, .ref (G.1 + o))]) B dX9_init_142 rfl (by decide) rfl ?_
  refine j_locals [1, 0] rfl ?_
  exact tX9_init_143 B E  FU (0) (sv) (r121) (vl) (cs) (ss)  h
def fX9_init_124 (o : Nat) (sv : SV) (vi : VI) (vl : VL) (cs : Nat) (ss : Nat) : Option (SV × VI × VL) := if cs + 1 ≤ 62 ∧ ss + 6 ≤ 2746 then optL (j_svn sv 22 6) fun sv114 => optL (j_z0 vi sv.1 0) fun vi115 => optL (j_z0 vl sv.1 0) fun vl116 => if obB sv114 o 9 = true then optL (j_svr sv114 o 13 (sv.1 + 1)) fun sv118 => fX9_init_133 o sv118 vi115 vl116 (cs + 1) (ss + 6) else none else none
theorem tX9_init_124 {G : GT} {Γ : CT} {o : Nat} {sv' : SV} {vi' : VI} {vl' : VL} (B : Base G Γ mX9_init 3 62 2746) (E : Ends G Γ 62 2746 (QV sv' vi' vl')) : ∀ (sv : SV) (vi : VI) (vl : VL) (cs : Nat) (ss : Nat), fX9_init_124 o sv vi vl cs ss = some (sv', vi', vl') → J G Γ cs ss 124 [(0, .ref (G.1 + o))] [] sv vi vl := by
  intro sv vi vl cs ss h
  unfold fX9_init_124 at h
  refine j_aload_n B dX9_init_124 rfl 0 rfl ?_
  refine j_bipush B dX9_init_125 (v := 6) (by decide) ?_
  obtain ⟨b113, h⟩ := h_if h
  refine j_anewa (N := 6) B (Or.inr (Or.inl ⟨rfl, rfl⟩)) wcl_RX9_77 (by decide) (by decide) (by decide) b113.1 b113.2 dX9_init_127 ?_
  obtain ⟨sv114, esv114, h⟩ := h_let h
  rw [← esv114]
  obtain ⟨vi115, evi115, h⟩ := h_let h
  rw [← evi115]
  obtain ⟨vl116, evl116, h⟩ := h_let h
  rw [← evl116]
  obtain ⟨b117, h⟩ := h_ob h
  refine pf_RX9_79 B rfl b117 rfl dX9_init_130 ?_
  obtain ⟨sv118, esv118, h⟩ := h_let h
  rw [← esv118]
  refine j_locals [0] rfl ?_
  exact tX9_init_133 B E  (sv118) (vi115) (vl116) ((cs + 1)) ((ss + 6))  h
def fX9_init_113 (o : Nat) (sv : SV) (vi : VI) (vl : VL) (cs : Nat) (ss : Nat) : Option (SV × VI × VL) := if cs + 1 ≤ 62 ∧ ss + 4 ≤ 2746 then optL (j_svn sv 0 4) fun sv103 => optL (j_z0 vi sv.1 0) fun vi104 => optL (j_z0 vl sv.1 0) fun vl105 => if (cs + 1) + 2 ≤ 62 ∧ (ss + 4) + 74 ≤ 2746 then (fX0_init sv.1 sv103 vi104 vl105).bind fun r106 => if obB r106.1 o 9 = true then optL (j_svr r106.1 o 12 (sv.1 + 1)) fun sv112 => fX9_init_124 o sv112 r106.2.1 r106.2.2 ((cs + 1) + 2) ((ss + 4) + 74) else none else none else none
theorem tX9_init_113 {G : GT} {Γ : CT} {o : Nat} {sv' : SV} {vi' : VI} {vl' : VL} (B : Base G Γ mX9_init 3 62 2746) (E : Ends G Γ 62 2746 (QV sv' vi' vl')) : ∀ (sv : SV) (vi : VI) (vl : VL) (cs : Nat) (ss : Nat), fX9_init_113 o sv vi vl cs ss = some (sv', vi', vl') → J G Γ cs ss 113 [(0, .ref (G.1 + o))] [] sv vi vl := by
  intro sv vi vl cs ss h
  unfold fX9_init_113 at h
  refine j_aload_n B dX9_init_113 rfl 0 rfl ?_
  obtain ⟨b102, h⟩ := h_if h
  refine j_new B cls0 hdef0 wcl_RX9_70 wins_RX0 wini_RX0 b102.1 b102.2 dX9_init_114 ?_
  obtain ⟨sv103, esv103, h⟩ := h_let h
  rw [← esv103]
  obtain ⟨vi104, evi104, h⟩ := h_let h
  rw [← evi104]
  obtain ⟨vl105, evl105, h⟩ := h_let h
  rw [← evl105]
  refine j_dup B dX9_init_117 rfl ?_
  obtain ⟨b107, h⟩ := h_if h
  obtain ⟨r106, hr106, h⟩ := h_bind h
  refine j_cN (rest := [.ref (G.1 + sv.1), .ref (G.1 + o)]) B (tX0_init hr106) ⟨rfl, rfl⟩ (host := "DustInOrder") (by decide +kernel) wc_X0_init wini_RX0 (by decide +kernel) (by decide) wi_X0_init rfl (by decide) b107.1 b107.2 rfl (Nat.le_of_ble_eq_true rfl) dX9_init_118 ?_
  obtain ⟨b111, h⟩ := h_ob h
  refine pf_RX9_73 B rfl b111 rfl dX9_init_121 ?_
  obtain ⟨sv112, esv112, h⟩ := h_let h
  rw [← esv112]
  refine j_locals [0] rfl ?_
  exact tX9_init_124 B E  (sv112) (r106.2.1) (r106.2.2) (((cs + 1) + 2)) (((ss + 4) + 74))  h
def fX9_init_102 (o : Nat) (sv : SV) (vi : VI) (vl : VL) (cs : Nat) (ss : Nat) : Option (SV × VI × VL) := if cs + 1 ≤ 62 ∧ ss + 6 ≤ 2746 then optL (j_svn sv 1 6) fun sv92 => optL (j_z0 vi sv.1 0) fun vi93 => optL (j_z0 vl sv.1 0) fun vl94 => if (cs + 1) + 4 ≤ 62 ∧ (ss + 6) + 160 ≤ 2746 then (fX1_init sv.1 sv92 vi93 vl94).bind fun r95 => if obB r95.1 o 9 = true then optL (j_svr r95.1 o 11 (sv.1 + 1)) fun sv101 => fX9_init_113 o sv101 r95.2.1 r95.2.2 ((cs + 1) + 4) ((ss + 6) + 160) else none else none else none
theorem tX9_init_102 {G : GT} {Γ : CT} {o : Nat} {sv' : SV} {vi' : VI} {vl' : VL} (B : Base G Γ mX9_init 3 62 2746) (E : Ends G Γ 62 2746 (QV sv' vi' vl')) : ∀ (sv : SV) (vi : VI) (vl : VL) (cs : Nat) (ss : Nat), fX9_init_102 o sv vi vl cs ss = some (sv', vi', vl') → J G Γ cs ss 102 [(0, .ref (G.1 + o))] [] sv vi vl := by
  intro sv vi vl cs ss h
  unfold fX9_init_102 at h
  refine j_aload_n B dX9_init_102 rfl 0 rfl ?_
  obtain ⟨b91, h⟩ := h_if h
  refine j_new B cls1 hdef1 wcl_RX9_63 wins_RX1 wini_RX1 b91.1 b91.2 dX9_init_103 ?_
  obtain ⟨sv92, esv92, h⟩ := h_let h
  rw [← esv92]
  obtain ⟨vi93, evi93, h⟩ := h_let h
  rw [← evi93]
  obtain ⟨vl94, evl94, h⟩ := h_let h
  rw [← evl94]
  refine j_dup B dX9_init_106 rfl ?_
  obtain ⟨b96, h⟩ := h_if h
  obtain ⟨r95, hr95, h⟩ := h_bind h
  refine j_cN (rest := [.ref (G.1 + sv.1), .ref (G.1 + o)]) B (tX1_init hr95) ⟨rfl, rfl⟩ (host := "DustInOrder") (by decide +kernel) wc_X1_init wini_RX1 (by decide +kernel) (by decide) wi_X1_init rfl (by decide) b96.1 b96.2 rfl (Nat.le_of_ble_eq_true rfl) dX9_init_107 ?_
  obtain ⟨b100, h⟩ := h_ob h
  refine pf_RX9_66 B rfl b100 rfl dX9_init_110 ?_
  obtain ⟨sv101, esv101, h⟩ := h_let h
  rw [← esv101]
  refine j_locals [0] rfl ?_
  exact tX9_init_113 B E  (sv101) (r95.2.1) (r95.2.2) (((cs + 1) + 4)) (((ss + 6) + 160))  h
def fX9_init_91 (o : Nat) (sv : SV) (vi : VI) (vl : VL) (cs : Nat) (ss : Nat) : Option (SV × VI × VL) := if cs + 1 ≤ 62 ∧ ss + 3 ≤ 2746 then optL (j_svn sv 4 3) fun sv81 => optL (j_z0 vi sv.1 0) fun vi82 => optL (j_z0 vl sv.1 0) fun vl83 => if (cs + 1) + 17 ≤ 62 ∧ (ss + 3) + 145 ≤ 2746 then (fX4_init sv.1 sv81 vi82 vl83).bind fun r84 => if obB r84.1 o 9 = true then optL (j_svr r84.1 o 10 (sv.1 + 1)) fun sv90 => fX9_init_102 o sv90 r84.2.1 r84.2.2 ((cs + 1) + 17) ((ss + 3) + 145) else none else none else none
theorem tX9_init_91 {G : GT} {Γ : CT} {o : Nat} {sv' : SV} {vi' : VI} {vl' : VL} (B : Base G Γ mX9_init 3 62 2746) (E : Ends G Γ 62 2746 (QV sv' vi' vl')) : ∀ (sv : SV) (vi : VI) (vl : VL) (cs : Nat) (ss : Nat), fX9_init_91 o sv vi vl cs ss = some (sv', vi', vl') → J G Γ cs ss 91 [(0, .ref (G.1 + o))] [] sv vi vl := by
  intro sv vi vl cs ss h
  unfold fX9_init_91 at h
  refine j_aload_n B dX9_init_91 rfl 0 rfl ?_
  obtain ⟨b80, h⟩ := h_if h
  refine j_new B cls4 hdef4 wcl_RX9_56 wins_RX4 wini_RX4 b80.1 b80.2 dX9_init_92 ?_
  obtain ⟨sv81, esv81, h⟩ := h_let h
  rw [← esv81]
  obtain ⟨vi82, evi82, h⟩ := h_let h
  rw [← evi82]
  obtain ⟨vl83, evl83, h⟩ := h_let h
  rw [← evl83]
  refine j_dup B dX9_init_95 rfl ?_
  obtain ⟨b85, h⟩ := h_if h
  obtain ⟨r84, hr84, h⟩ := h_bind h
  refine j_cI (rest := [.ref (G.1 + sv.1), .ref (G.1 + o)]) B (tX4_init hr84) ⟨rfl, rfl⟩ jt_RX9_58 wi_X4_init rfl (by decide) b85.1 b85.2 rfl (Nat.le_of_ble_eq_true rfl) dX9_init_96 ?_
  obtain ⟨b89, h⟩ := h_ob h
  refine pf_RX9_59 B rfl b89 rfl dX9_init_99 ?_
  obtain ⟨sv90, esv90, h⟩ := h_let h
  rw [← esv90]
  refine j_locals [0] rfl ?_
  exact tX9_init_102 B E  (sv90) (r84.2.1) (r84.2.2) (((cs + 1) + 17)) (((ss + 3) + 145))  h
def fX9_init_84 (o : Nat) (sv : SV) (vi : VI) (vl : VL) (cs : Nat) (ss : Nat) : Option (SV × VI × VL) := if cs + 1 ≤ 62 ∧ ss + 5 ≤ 2746 then optL (j_svn sv 11 5) fun sv75 => optL (j_z0 vi sv.1 0) fun vi76 => optL (j_z0 vl sv.1 0) fun vl77 => if obB sv75 o 9 = true then optL (j_svr sv75 o 9 (sv.1 + 1)) fun sv79 => fX9_init_91 o sv79 vi76 vl77 (cs + 1) (ss + 5) else none else none
theorem tX9_init_84 {G : GT} {Γ : CT} {o : Nat} {sv' : SV} {vi' : VI} {vl' : VL} (B : Base G Γ mX9_init 3 62 2746) (E : Ends G Γ 62 2746 (QV sv' vi' vl')) : ∀ (sv : SV) (vi : VI) (vl : VL) (cs : Nat) (ss : Nat), fX9_init_84 o sv vi vl cs ss = some (sv', vi', vl') → J G Γ cs ss 84 [(0, .ref (G.1 + o))] [] sv vi vl := by
  intro sv vi vl cs ss h
  unfold fX9_init_84 at h
  refine j_aload_n B dX9_init_84 rfl 0 rfl ?_
  refine j_iconst B dX9_init_85 (v := 5) (by decide) ?_
  obtain ⟨b74, h⟩ := h_if h
  refine j_newa (N := 5) B (Or.inl ⟨rfl, rfl⟩) wac_11 (by decide) (by decide) (by decide) b74.1 b74.2 dX9_init_86 ?_
  obtain ⟨sv75, esv75, h⟩ := h_let h
  rw [← esv75]
  obtain ⟨vi76, evi76, h⟩ := h_let h
  rw [← evi76]
  obtain ⟨vl77, evl77, h⟩ := h_let h
  rw [← evl77]
  obtain ⟨b78, h⟩ := h_ob h
  refine pf_RX9_53 B rfl b78 rfl dX9_init_88 ?_
  obtain ⟨sv79, esv79, h⟩ := h_let h
  rw [← esv79]
  refine j_locals [0] rfl ?_
  exact tX9_init_91 B E  (sv79) (vi76) (vl77) ((cs + 1)) ((ss + 5))  h
def fX9_init_75 (o : Nat) (sv : SV) (vi : VI) (vl : VL) (cs : Nat) (ss : Nat) : Option (SV × VI × VL) := if cs + 1 ≤ 62 ∧ ss + 169 ≤ 2746 then optL (j_svn sv 11 169) fun sv69 => optL (j_z0 vi sv.1 0) fun vi70 => optL (j_z0 vl sv.1 0) fun vl71 => if obB sv69 o 9 = true then optL (j_svr sv69 o 8 (sv.1 + 1)) fun sv73 => fX9_init_84 o sv73 vi70 vl71 (cs + 1) (ss + 169) else none else none
theorem tX9_init_75 {G : GT} {Γ : CT} {o : Nat} {sv' : SV} {vi' : VI} {vl' : VL} (B : Base G Γ mX9_init 3 62 2746) (E : Ends G Γ 62 2746 (QV sv' vi' vl')) : ∀ (sv : SV) (vi : VI) (vl : VL) (cs : Nat) (ss : Nat), fX9_init_75 o sv vi vl cs ss = some (sv', vi', vl') → J G Γ cs ss 75 [(0, .ref (G.1 + o))] [] sv vi vl := by
  intro sv vi vl cs ss h
  unfold fX9_init_75 at h
  refine j_aload_n B dX9_init_75 rfl 0 rfl ?_
  refine j_sipush B dX9_init_76 (v := 169) (by decide) ?_
  obtain ⟨b68, h⟩ := h_if h
  refine j_newa (N := 169) B (Or.inl ⟨rfl, rfl⟩) wac_11 (by decide) (by decide) (by decide) b68.1 b68.2 dX9_init_79 ?_
  obtain ⟨sv69, esv69, h⟩ := h_let h
  rw [← esv69]
  obtain ⟨vi70, evi70, h⟩ := h_let h
  rw [← evi70]
  obtain ⟨vl71, evl71, h⟩ := h_let h
  rw [← evl71]
  obtain ⟨b72, h⟩ := h_ob h
  refine pf_RX9_50 B rfl b72 rfl dX9_init_81 ?_
  obtain ⟨sv73, esv73, h⟩ := h_let h
  rw [← esv73]
  refine j_locals [0] rfl ?_
  exact tX9_init_84 B E  (sv73) (vi70) (vl71) ((cs + 1)) ((ss + 169))  h
def fX9_init_64 (o : Nat) (sv : SV) (vi : VI) (vl : VL) (cs : Nat) (ss : Nat) : Option (SV × VI × VL) := if cs + 1 ≤ 62 ∧ ss + 7 ≤ 2746 then optL (j_svn sv 2 7) fun sv58 => optL (j_z0 vi sv.1 0) fun vi59 => optL (j_z0 vl sv.1 0) fun vl60 => if (cs + 1) + 5 ≤ 62 ∧ (ss + 7) + 1106 ≤ 2746 then (fX2_init sv.1 sv58 vi59 vl60).bind fun r61 => if obB r61.1 o 9 = true then optL (j_svr r61.1 o 7 (sv.1 + 1)) fun sv67 => fX9_init_75 o sv67 r61.2.1 r61.2.2 ((cs + 1) + 5) ((ss + 7) + 1106) else none else none else none
theorem tX9_init_64 {G : GT} {Γ : CT} {o : Nat} {sv' : SV} {vi' : VI} {vl' : VL} (B : Base G Γ mX9_init 3 62 2746) (E : Ends G Γ 62 2746 (QV sv' vi' vl')) : ∀ (sv : SV) (vi : VI) (vl : VL) (cs : Nat) (ss : Nat), fX9_init_64 o sv vi vl cs ss = some (sv', vi', vl') → J G Γ cs ss 64 [(0, .ref (G.1 + o))] [] sv vi vl := by
  intro sv vi vl cs ss h
  unfold fX9_init_64 at h
  refine j_aload_n B dX9_init_64 rfl 0 rfl ?_
  obtain ⟨b57, h⟩ := h_if h
  refine j_new B cls2 hdef2 wcl_RX9_43 wins_RX2 wini_RX2 b57.1 b57.2 dX9_init_65 ?_
  obtain ⟨sv58, esv58, h⟩ := h_let h
  rw [← esv58]
  obtain ⟨vi59, evi59, h⟩ := h_let h
  rw [← evi59]
  obtain ⟨vl60, evl60, h⟩ := h_let h
  rw [← evl60]
  refine j_dup B dX9_init_68 rfl ?_
  obtain ⟨b62, h⟩ := h_if h
  obtain ⟨r61, hr61, h⟩ := h_bind h
  refine j_cN (rest := [.ref (G.1 + sv.1), .ref (G.1 + o)]) B (tX2_init hr61) ⟨rfl, rfl⟩ (host := "DustInOrder") (by decide +kernel) wc_X2_init wini_RX2 (by decide +kernel) (by decide) wi_X2_init rfl (by decide) b62.1 b62.2 rfl (Nat.le_of_ble_eq_true rfl) dX9_init_69 ?_
  obtain ⟨b66, h⟩ := h_ob h
  refine pf_RX9_46 B rfl b66 rfl dX9_init_72 ?_
  obtain ⟨sv67, esv67, h⟩ := h_let h
  rw [← esv67]
  refine j_locals [0] rfl ?_
  exact tX9_init_75 B E  (sv67) (r61.2.1) (r61.2.2) (((cs + 1) + 5)) (((ss + 7) + 1106))  h
def fX9_init_53 (o : Nat) (sv : SV) (vi : VI) (vl : VL) (cs : Nat) (ss : Nat) : Option (SV × VI × VL) := if cs + 1 ≤ 62 ∧ ss + 3 ≤ 2746 then optL (j_svn sv 3 3) fun sv47 => optL (j_z0 vi sv.1 0) fun vi48 => optL (j_z0 vl sv.1 0) fun vl49 => if (cs + 1) + 2 ≤ 62 ∧ (ss + 3) + 24 ≤ 2746 then (fX3_init sv.1 sv47 vi48 vl49).bind fun r50 => if obB r50.1 o 9 = true then optL (j_svr r50.1 o 6 (sv.1 + 1)) fun sv56 => fX9_init_64 o sv56 r50.2.1 r50.2.2 ((cs + 1) + 2) ((ss + 3) + 24) else none else none else none
theorem tX9_init_53 {G : GT} {Γ : CT} {o : Nat} {sv' : SV} {vi' : VI} {vl' : VL} (B : Base G Γ mX9_init 3 62 2746) (E : Ends G Γ 62 2746 (QV sv' vi' vl')) : ∀ (sv : SV) (vi : VI) (vl : VL) (cs : Nat) (ss : Nat), fX9_init_53 o sv vi vl cs ss = some (sv', vi', vl') → J G Γ cs ss 53 [(0, .ref (G.1 + o))] [] sv vi vl := by
  intro sv vi vl cs ss h
  unfold fX9_init_53 at h
  refine j_aload_n B dX9_init_53 rfl 0 rfl ?_
  obtain ⟨b46, h⟩ := h_if h
  refine j_new B cls3 hdef3 wcl_RX9_36 wins_RX3 wini_RX3 b46.1 b46.2 dX9_init_54 ?_
  obtain ⟨sv47, esv47, h⟩ := h_let h
  rw [← esv47]
  obtain ⟨vi48, evi48, h⟩ := h_let h
  rw [← evi48]
  obtain ⟨vl49, evl49, h⟩ := h_let h
  rw [← evl49]
  refine j_dup B dX9_init_57 rfl ?_
  obtain ⟨b51, h⟩ := h_if h
  obtain ⟨r50, hr50, h⟩ := h_bind h
  refine j_cN (rest := [.ref (G.1 + sv.1), .ref (G.1 + o)]) B (tX3_init hr50) ⟨rfl, rfl⟩ (host := "DustInOrder") (by decide +kernel) wc_X3_init wini_RX3 (by decide +kernel) (by decide) wi_X3_init rfl (by decide) b51.1 b51.2 rfl (Nat.le_of_ble_eq_true rfl) dX9_init_58 ?_
  obtain ⟨b55, h⟩ := h_ob h
  refine pf_RX9_39 B rfl b55 rfl dX9_init_61 ?_
  obtain ⟨sv56, esv56, h⟩ := h_let h
  rw [← esv56]
  refine j_locals [0] rfl ?_
  exact tX9_init_64 B E  (sv56) (r50.2.1) (r50.2.2) (((cs + 1) + 2)) (((ss + 3) + 24))  h
def fX9_init_42 (o : Nat) (sv : SV) (vi : VI) (vl : VL) (cs : Nat) (ss : Nat) : Option (SV × VI × VL) := if cs + 1 ≤ 62 ∧ ss + 6 ≤ 2746 then optL (j_svn sv 5 6) fun sv36 => optL (j_z0 vi sv.1 0) fun vi37 => optL (j_z0 vl sv.1 0) fun vl38 => if (cs + 1) + 3 ≤ 62 ∧ (ss + 6) + 248 ≤ 2746 then (fX5_init sv.1 sv36 vi37 vl38).bind fun r39 => if obB r39.1 o 9 = true then optL (j_svr r39.1 o 5 (sv.1 + 1)) fun sv45 => fX9_init_53 o sv45 r39.2.1 r39.2.2 ((cs + 1) + 3) ((ss + 6) + 248) else none else none else none
theorem tX9_init_42 {G : GT} {Γ : CT} {o : Nat} {sv' : SV} {vi' : VI} {vl' : VL} (B : Base G Γ mX9_init 3 62 2746) (E : Ends G Γ 62 2746 (QV sv' vi' vl')) : ∀ (sv : SV) (vi : VI) (vl : VL) (cs : Nat) (ss : Nat), fX9_init_42 o sv vi vl cs ss = some (sv', vi', vl') → J G Γ cs ss 42 [(0, .ref (G.1 + o))] [] sv vi vl := by
  intro sv vi vl cs ss h
  unfold fX9_init_42 at h
  refine j_aload_n B dX9_init_42 rfl 0 rfl ?_
  obtain ⟨b35, h⟩ := h_if h
  refine j_new B cls5 hdef5 wcl_RX9_26 wins_RX5 wini_RX5 b35.1 b35.2 dX9_init_43 ?_
  obtain ⟨sv36, esv36, h⟩ := h_let h
  rw [← esv36]
  obtain ⟨vi37, evi37, h⟩ := h_let h
  rw [← evi37]
  obtain ⟨vl38, evl38, h⟩ := h_let h
  rw [← evl38]
  refine j_dup B dX9_init_46 rfl ?_
  obtain ⟨b40, h⟩ := h_if h
  obtain ⟨r39, hr39, h⟩ := h_bind h
  refine j_cN (rest := [.ref (G.1 + sv.1), .ref (G.1 + o)]) B (tX5_init hr39) ⟨rfl, rfl⟩ (host := "DustInOrder") (by decide +kernel) wc_X5_init wini_RX5 (by decide +kernel) (by decide) wi_X5_init rfl (by decide) b40.1 b40.2 rfl (Nat.le_of_ble_eq_true rfl) dX9_init_47 ?_
  obtain ⟨b44, h⟩ := h_ob h
  refine pf_RX9_33 B rfl b44 rfl dX9_init_50 ?_
  obtain ⟨sv45, esv45, h⟩ := h_let h
  rw [← esv45]
  refine j_locals [0] rfl ?_
  exact tX9_init_53 B E  (sv45) (r39.2.1) (r39.2.2) (((cs + 1) + 3)) (((ss + 6) + 248))  h
def fX9_init_31 (o : Nat) (sv : SV) (vi : VI) (vl : VL) (cs : Nat) (ss : Nat) : Option (SV × VI × VL) := if cs + 1 ≤ 62 ∧ ss + 6 ≤ 2746 then optL (j_svn sv 5 6) fun sv25 => optL (j_z0 vi sv.1 0) fun vi26 => optL (j_z0 vl sv.1 0) fun vl27 => if (cs + 1) + 3 ≤ 62 ∧ (ss + 6) + 248 ≤ 2746 then (fX5_init sv.1 sv25 vi26 vl27).bind fun r28 => if obB r28.1 o 9 = true then optL (j_svr r28.1 o 4 (sv.1 + 1)) fun sv34 => fX9_init_42 o sv34 r28.2.1 r28.2.2 ((cs + 1) + 3) ((ss + 6) + 248) else none else none else none
theorem tX9_init_31 {G : GT} {Γ : CT} {o : Nat} {sv' : SV} {vi' : VI} {vl' : VL} (B : Base G Γ mX9_init 3 62 2746) (E : Ends G Γ 62 2746 (QV sv' vi' vl')) : ∀ (sv : SV) (vi : VI) (vl : VL) (cs : Nat) (ss : Nat), fX9_init_31 o sv vi vl cs ss = some (sv', vi', vl') → J G Γ cs ss 31 [(0, .ref (G.1 + o))] [] sv vi vl := by
  intro sv vi vl cs ss h
  unfold fX9_init_31 at h
  refine j_aload_n B dX9_init_31 rfl 0 rfl ?_
  obtain ⟨b24, h⟩ := h_if h
  refine j_new B cls5 hdef5 wcl_RX9_26 wins_RX5 wini_RX5 b24.1 b24.2 dX9_init_32 ?_
  obtain ⟨sv25, esv25, h⟩ := h_let h
  rw [← esv25]
  obtain ⟨vi26, evi26, h⟩ := h_let h
  rw [← evi26]
  obtain ⟨vl27, evl27, h⟩ := h_let h
  rw [← evl27]
  refine j_dup B dX9_init_35 rfl ?_
  obtain ⟨b29, h⟩ := h_if h
  obtain ⟨r28, hr28, h⟩ := h_bind h
  refine j_cN (rest := [.ref (G.1 + sv.1), .ref (G.1 + o)]) B (tX5_init hr28) ⟨rfl, rfl⟩ (host := "DustInOrder") (by decide +kernel) wc_X5_init wini_RX5 (by decide +kernel) (by decide) wi_X5_init rfl (by decide) b29.1 b29.2 rfl (Nat.le_of_ble_eq_true rfl) dX9_init_36 ?_
  obtain ⟨b33, h⟩ := h_ob h
  refine pf_RX9_29 B rfl b33 rfl dX9_init_39 ?_
  obtain ⟨sv34, esv34, h⟩ := h_let h
  rw [← esv34]
  refine j_locals [0] rfl ?_
  exact tX9_init_42 B E  (sv34) (r28.2.1) (r28.2.2) (((cs + 1) + 3)) (((ss + 6) + 248))  h
def fX9_init_20 (o : Nat) (sv : SV) (vi : VI) (vl : VL) (cs : Nat) (ss : Nat) : Option (SV × VI × VL) := if cs + 1 ≤ 62 ∧ ss + 5 ≤ 2746 then optL (j_svn sv 8 5) fun sv14 => optL (j_z0 vi sv.1 0) fun vi15 => optL (j_z0 vl sv.1 0) fun vl16 => if (cs + 1) + 1 ≤ 62 ∧ (ss + 5) + 120 ≤ 2746 then (fX8_init sv.1 sv14 vi15 vl16).bind fun r17 => if obB r17.1 o 9 = true then optL (j_svr r17.1 o 3 (sv.1 + 1)) fun sv23 => fX9_init_31 o sv23 r17.2.1 r17.2.2 ((cs + 1) + 1) ((ss + 5) + 120) else none else none else none
theorem tX9_init_20 {G : GT} {Γ : CT} {o : Nat} {sv' : SV} {vi' : VI} {vl' : VL} (B : Base G Γ mX9_init 3 62 2746) (E : Ends G Γ 62 2746 (QV sv' vi' vl')) : ∀ (sv : SV) (vi : VI) (vl : VL) (cs : Nat) (ss : Nat), fX9_init_20 o sv vi vl cs ss = some (sv', vi', vl') → J G Γ cs ss 20 [(0, .ref (G.1 + o))] [] sv vi vl := by
  intro sv vi vl cs ss h
  unfold fX9_init_20 at h
  refine j_aload_n B dX9_init_20 rfl 0 rfl ?_
  obtain ⟨b13, h⟩ := h_if h
  refine j_new B cls8 hdef8 wcl_RX9_19 wins_RX8 wini_RX8 b13.1 b13.2 dX9_init_21 ?_
  obtain ⟨sv14, esv14, h⟩ := h_let h
  rw [← esv14]
  obtain ⟨vi15, evi15, h⟩ := h_let h
  rw [← evi15]
  obtain ⟨vl16, evl16, h⟩ := h_let h
  rw [← evl16]
  refine j_dup B dX9_init_24 rfl ?_
  obtain ⟨b18, h⟩ := h_if h
  obtain ⟨r17, hr17, h⟩ := h_bind h
  refine j_cN (rest := [.ref (G.1 + sv.1), .ref (G.1 + o)]) B (tX8_init hr17) ⟨rfl, rfl⟩ (host := "DustInOrder") (by decide +kernel) wc_X8_init wini_RX8 (by decide +kernel) (by decide) wi_X8_init rfl (by decide) b18.1 b18.2 rfl (Nat.le_of_ble_eq_true rfl) dX9_init_25 ?_
  obtain ⟨b22, h⟩ := h_ob h
  refine pf_RX9_22 B rfl b22 rfl dX9_init_28 ?_
  obtain ⟨sv23, esv23, h⟩ := h_let h
  rw [← esv23]
  refine j_locals [0] rfl ?_
  exact tX9_init_31 B E  (sv23) (r17.2.1) (r17.2.2) (((cs + 1) + 1)) (((ss + 5) + 120))  h
def fX9_init_12 (o : Nat) (sv : SV) (vi : VI) (vl : VL) (cs : Nat) (ss : Nat) : Option (SV × VI × VL) := if cs + 1 ≤ 62 ∧ ss + 6 ≤ 2746 then optL (j_svn sv 11 6) fun sv8 => optL (j_z0 vi sv.1 0) fun vi9 => optL (j_z0 vl sv.1 0) fun vl10 => if obB sv8 o 9 = true then optL (j_svr sv8 o 2 (sv.1 + 1)) fun sv12 => fX9_init_20 o sv12 vi9 vl10 (cs + 1) (ss + 6) else none else none
theorem tX9_init_12 {G : GT} {Γ : CT} {o : Nat} {sv' : SV} {vi' : VI} {vl' : VL} (B : Base G Γ mX9_init 3 62 2746) (E : Ends G Γ 62 2746 (QV sv' vi' vl')) : ∀ (sv : SV) (vi : VI) (vl : VL) (cs : Nat) (ss : Nat), fX9_init_12 o sv vi vl cs ss = some (sv', vi', vl') → J G Γ cs ss 12 [(0, .ref (G.1 + o))] [] sv vi vl := by
  intro sv vi vl cs ss h
  unfold fX9_init_12 at h
  refine j_aload_n B dX9_init_12 rfl 0 rfl ?_
  refine j_bipush B dX9_init_13 (v := 6) (by decide) ?_
  obtain ⟨b7, h⟩ := h_if h
  refine j_newa (N := 6) B (Or.inl ⟨rfl, rfl⟩) wac_11 (by decide) (by decide) (by decide) b7.1 b7.2 dX9_init_15 ?_
  obtain ⟨sv8, esv8, h⟩ := h_let h
  rw [← esv8]
  obtain ⟨vi9, evi9, h⟩ := h_let h
  rw [← evi9]
  obtain ⟨vl10, evl10, h⟩ := h_let h
  rw [← evl10]
  obtain ⟨b11, h⟩ := h_ob h
  refine pf_RX9_15 B rfl b11 rfl dX9_init_17 ?_
  obtain ⟨sv12, esv12, h⟩ := h_let h
  rw [← esv12]
  refine j_locals [0] rfl ?_
  exact tX9_init_20 B E  (sv12) (vi9) (vl10) ((cs + 1)) ((ss + 6))  h
def fX9_init (o : Nat) (sv0 : SV) (vi0 : VI) (vl0 : VL) : Option (SV × VI × VL) := if 0 + 1 ≤ 62 ∧ 0 + 5 ≤ 2746 then optL (j_svn sv0 23 5) fun sv2 => optL (j_z0 vi0 sv0.1 0) fun vi3 => optL (j_z0 vl0 sv0.1 0) fun vl4 => if obB sv2 o 9 = true then optL (j_svr sv2 o 0 (sv0.1 + 1)) fun sv6 => fX9_init_12 o sv6 vi3 vl4 (0 + 1) (0 + 5) else none else none
theorem tX9_init {G : GT} {sv0 : SV} {vi0 : VI} {vl0 : VL} {o : Nat} {sv' : SV} {vi' : VI} {vl' : VL} (h : fX9_init o sv0 vi0 vl0 = some (sv', vi', vl')) : Call G mX9_init 3 62 2746 [.ref (G.1 + o)] sv0 vi0 vl0 (QV sv' vi' vl') := by
  refine j_mk (by decide +kernel) (Nat.le_of_ble_eq_true rfl) (fun Γ B E => ?_)
  show J G Γ 0 0 0 [(0, .ref (G.1 + o))] [] sv0 vi0 vl0
  unfold fX9_init at h
  refine j_aload_n B dX9_init_0 rfl 0 rfl ?_
  refine j_objInit B wl_RX9_3 w_oi w_oc (by decide) dX9_init_1 ?_
  refine j_aload_n B dX9_init_4 rfl 0 rfl ?_
  refine j_iconst B dX9_init_5 (v := 5) (by decide) ?_
  obtain ⟨b1, h⟩ := h_if h
  refine j_anewa (N := 5) B (Or.inr (Or.inr ⟨rfl, rfl⟩)) wcl_RX9_9 (by decide) (by decide) (by decide) b1.1 b1.2 dX9_init_6 ?_
  obtain ⟨sv2, esv2, h⟩ := h_let h
  rw [← esv2]
  obtain ⟨vi3, evi3, h⟩ := h_let h
  rw [← evi3]
  obtain ⟨vl4, evl4, h⟩ := h_let h
  rw [← evl4]
  obtain ⟨b5, h⟩ := h_ob h
  refine pf_RX9_11 B rfl b5 rfl dX9_init_9 ?_
  obtain ⟨sv6, esv6, h⟩ := h_let h
  rw [← esv6]
  refine j_locals [0] rfl ?_
  exact tX9_init_12 B E  (sv6) (vi3) (vl4) ((0 + 1)) ((0 + 5))  h
def fX10_init_316 (o : Nat) (sv : SV) (vi : VI) (vl : VL) (cs : Nat) (ss : Nat) : Option (SV × VI × VL) := if cs + 1 ≤ 34 ∧ ss + 60 ≤ 12759 then optL (j_svn sv 20 60) fun sv224 => optL (j_z0 vi sv.1 0) fun vi225 => optL (j_z0 vl sv.1 0) fun vl226 => if obB sv224 o 10 = true then optL (j_svr sv224 o 52 (sv.1 + 1)) fun sv228 => if (cs + 1) ≤ 34 ∧ (ss + 60) ≤ 12759 then some (sv228, vi225, vl226) else none else none else none
theorem tX10_init_316 {G : GT} {Γ : CT} {o : Nat} {sv' : SV} {vi' : VI} {vl' : VL} (B : Base G Γ mX10_init 1 34 12759) (E : Ends G Γ 34 12759 (QV sv' vi' vl')) : ∀ (sv : SV) (vi : VI) (vl : VL) (cs : Nat) (ss : Nat), fX10_init_316 o sv vi vl cs ss = some (sv', vi', vl') → J G Γ cs ss 316 [(0, .ref (G.1 + o))] [] sv vi vl := by
  intro sv vi vl cs ss h
  unfold fX10_init_316 at h
  refine j_aload_n B dX10_init_316 rfl 0 rfl ?_
  refine j_bipush B dX10_init_317 (v := 60) (by decide) ?_
  obtain ⟨b223, h⟩ := h_if h
  refine j_newa (N := 60) B (Or.inr (Or.inr (Or.inr ⟨rfl, rfl⟩))) wac_20 (by decide) (by decide) (by decide) b223.1 b223.2 dX10_init_319 ?_
  obtain ⟨sv224, esv224, h⟩ := h_let h
  rw [← esv224]
  obtain ⟨vi225, evi225, h⟩ := h_let h
  rw [← evi225]
  obtain ⟨vl226, evl226, h⟩ := h_let h
  rw [← evl226]
  obtain ⟨b227, h⟩ := h_ob h
  refine pf_RX10_114 B rfl b227 rfl dX10_init_321 ?_
  obtain ⟨sv228, esv228, h⟩ := h_let h
  rw [← esv228]
  obtain ⟨b229, h⟩ := h_if h
  have e1 := Option.some.inj h
  obtain ⟨e1, e2⟩ := Prod.mk.inj e1
  obtain ⟨e2, e3⟩ := Prod.mk.inj e2
  subst e1
  subst e2
  subst e3
  exact j_vret B E rfl dX10_init_324 b229.1 b229.2 ⟨rfl, rfl, rfl, rfl⟩
def fX10_init_307 (o : Nat) (sv : SV) (vi : VI) (vl : VL) (cs : Nat) (ss : Nat) : Option (SV × VI × VL) := if cs + 1 ≤ 34 ∧ ss + 360 ≤ 12759 then optL (j_svn sv 20 360) fun sv218 => optL (j_z0 vi sv.1 0) fun vi219 => optL (j_z0 vl sv.1 0) fun vl220 => if obB sv218 o 10 = true then optL (j_svr sv218 o 51 (sv.1 + 1)) fun sv222 => fX10_init_316 o sv222 vi219 vl220 (cs + 1) (ss + 360) else none else none
theorem tX10_init_307 {G : GT} {Γ : CT} {o : Nat} {sv' : SV} {vi' : VI} {vl' : VL} (B : Base G Γ mX10_init 1 34 12759) (E : Ends G Γ 34 12759 (QV sv' vi' vl')) : ∀ (sv : SV) (vi : VI) (vl : VL) (cs : Nat) (ss : Nat), fX10_init_307 o sv vi vl cs ss = some (sv', vi', vl') → J G Γ cs ss 307 [(0, .ref (G.1 + o))] [] sv vi vl := by
  intro sv vi vl cs ss h
  unfold fX10_init_307 at h
  refine j_aload_n B dX10_init_307 rfl 0 rfl ?_
  refine j_sipush B dX10_init_308 (v := 360) (by decide) ?_
  obtain ⟨b217, h⟩ := h_if h
  refine j_newa (N := 360) B (Or.inr (Or.inr (Or.inr ⟨rfl, rfl⟩))) wac_20 (by decide) (by decide) (by decide) b217.1 b217.2 dX10_init_311 ?_
  obtain ⟨sv218, esv218, h⟩ := h_let h
  rw [← esv218]
  obtain ⟨vi219, evi219, h⟩ := h_let h
  rw [← evi219]
  obtain ⟨vl220, evl220, h⟩ := h_let h
  rw [← evl220]
  obtain ⟨b221, h⟩ := h_ob h
  refine pf_RX10_111 B rfl b221 rfl dX10_init_313 ?_
  obtain ⟨sv222, esv222, h⟩ := h_let h
  rw [← esv222]
  refine j_locals [0] rfl ?_
  exact tX10_init_316 B E  (sv222) (vi219) (vl220) ((cs + 1)) ((ss + 360))  h
def fX10_init_299 (o : Nat) (sv : SV) (vi : VI) (vl : VL) (cs : Nat) (ss : Nat) : Option (SV × VI × VL) := if cs + 1 ≤ 34 ∧ ss + 6 ≤ 12759 then optL (j_svn sv 11 6) fun sv212 => optL (j_z0 vi sv.1 0) fun vi213 => optL (j_z0 vl sv.1 0) fun vl214 => if obB sv212 o 10 = true then optL (j_svr sv212 o 50 (sv.1 + 1)) fun sv216 => fX10_init_307 o sv216 vi213 vl214 (cs + 1) (ss + 6) else none else none
theorem tX10_init_299 {G : GT} {Γ : CT} {o : Nat} {sv' : SV} {vi' : VI} {vl' : VL} (B : Base G Γ mX10_init 1 34 12759) (E : Ends G Γ 34 12759 (QV sv' vi' vl')) : ∀ (sv : SV) (vi : VI) (vl : VL) (cs : Nat) (ss : Nat), fX10_init_299 o sv vi vl cs ss = some (sv', vi', vl') → J G Γ cs ss 299 [(0, .ref (G.1 + o))] [] sv vi vl := by
  intro sv vi vl cs ss h
  unfold fX10_init_299 at h
  refine j_aload_n B dX10_init_299 rfl 0 rfl ?_
  refine j_bipush B dX10_init_300 (v := 6) (by decide) ?_
  obtain ⟨b211, h⟩ := h_if h
  refine j_newa (N := 6) B (Or.inl ⟨rfl, rfl⟩) wac_11 (by decide) (by decide) (by decide) b211.1 b211.2 dX10_init_302 ?_
  obtain ⟨sv212, esv212, h⟩ := h_let h
  rw [← esv212]
  obtain ⟨vi213, evi213, h⟩ := h_let h
  rw [← evi213]
  obtain ⟨vl214, evl214, h⟩ := h_let h
  rw [← evl214]
  obtain ⟨b215, h⟩ := h_ob h
  refine pf_RX10_108 B rfl b215 rfl dX10_init_304 ?_
  obtain ⟨sv216, esv216, h⟩ := h_let h
  rw [← esv216]
  refine j_locals [0] rfl ?_
  exact tX10_init_307 B E  (sv216) (vi213) (vl214) ((cs + 1)) ((ss + 6))  h
def fX10_init_267 (o : Nat) (sv : SV) (vi : VI) (vl : VL) (cs : Nat) (ss : Nat) : Option (SV × VI × VL) := if cs + 1 ≤ 34 ∧ ss + 6 ≤ 12759 then optL (j_svn sv 11 6) fun sv194 => optL (j_z0 vi sv.1 0) fun vi195 => optL (j_z0 vl sv.1 0) fun vl196 => if arB sv194 sv.1 11 6 = true then if inb 0 6 = true then if arB sv194 sv.1 11 6 = true then if inb 1 6 = true then if arB sv194 sv.1 11 6 = true then if inb 2 6 = true then if arB sv194 sv.1 11 6 = true then if inb 3 6 = true then if arB sv194 sv.1 11 6 = true then if inb 4 6 = true then if arB sv194 sv.1 11 6 = true then if inb 5 6 = true then if obB sv194 o 10 = true then optL (j_svr sv194 o 49 (sv.1 + 1)) fun sv210 => fX10_init_299 o sv210 (j_up (j_up (j_up (j_up (j_up (j_up vi195 sv.1 (0 : Int32).toNatClampNeg (-1)) sv.1 (1 : Int32).toNatClampNeg (-1)) sv.1 (2 : Int32).toNatClampNeg (-1)) sv.1 (3 : Int32).toNatClampNeg (-1)) sv.1 (4 : Int32).toNatClampNeg (-1)) sv.1 (5 : Int32).toNatClampNeg (-1)) vl196 (cs + 1) (ss + 6) else none else none else none else none else none else none else none else none else none else none else none else none else none else none
theorem tX10_init_267 {G : GT} {Γ : CT} {o : Nat} {sv' : SV} {vi' : VI} {vl' : VL} (B : Base G Γ mX10_init 1 34 12759) (E : Ends G Γ 34 12759 (QV sv' vi' vl')) : ∀ (sv : SV) (vi : VI) (vl : VL) (cs : Nat) (ss : Nat), fX10_init_267 o sv vi vl cs ss = some (sv', vi', vl') → J G Γ cs ss 267 [(0, .ref (G.1 + o))] [] sv vi vl := by
  intro sv vi vl cs ss h
  unfold fX10_init_267 at h
  refine j_aload_n B dX10_init_267 rfl 0 rfl ?_
  refine j_bipush B dX10_init_268 (v := 6) (by decide) ?_
  obtain ⟨b193, h⟩ := h_if h
  refine j_newa (N := 6) B (Or.inl ⟨rfl, rfl⟩) wac_11 (by decide) (by decide) (by decide) b193.1 b193.2 dX10_init_270 ?_
  obtain ⟨sv194, esv194, h⟩ := h_let h
  rw [← esv194]
  obtain ⟨vi195, evi195, h⟩ := h_let h
  rw [← evi195]
  obtain ⟨vl196, evl196, h⟩ := h_let h
  rw [← evl196]
  refine j_dup B dX10_init_272 rfl ?_
  refine j_iconst B dX10_init_273 (v := 0) (by decide) ?_
  refine j_iconst B dX10_init_274 (v := (-1)) (by decide) ?_
  obtain ⟨b197, h⟩ := h_ar h
  obtain ⟨b198, h⟩ := h_inb h
  refine j_iast B b197 b198 dX10_init_275 ?_
  refine j_dup B dX10_init_276 rfl ?_
  refine j_iconst B dX10_init_277 (v := 1) (by decide) ?_
  refine j_iconst B dX10_init_278 (v := (-1)) (by decide) ?_
  obtain ⟨b199, h⟩ := h_ar h
  obtain ⟨b200, h⟩ := h_inb h
  refine j_iast B b199 b200 dX10_init_279 ?_
  refine j_dup B dX10_init_280 rfl ?_
  refine j_iconst B dX10_init_281 (v := 2) (by decide) ?_
  refine j_iconst B dX10_init_282 (v := (-1)) (by decide) ?_
  obtain ⟨b201, h⟩ := h_ar h
  obtain ⟨b202, h⟩ := h_inb h
  refine j_iast B b201 b202 dX10_init_283 ?_
  refine j_dup B dX10_init_284 rfl ?_
  refine j_iconst B dX10_init_285 (v := 3) (by decide) ?_
  refine j_iconst B dX10_init_286 (v := (-1)) (by decide) ?_
  obtain ⟨b203, h⟩ := h_ar h
  obtain ⟨b204, h⟩ := h_inb h
  refine j_iast B b203 b204 dX10_init_287 ?_
  refine j_dup B dX10_init_288 rfl ?_
  refine j_iconst B dX10_init_289 (v := 4) (by decide) ?_
  refine j_iconst B dX10_init_290 (v := (-1)) (by decide) ?_
  obtain ⟨b205, h⟩ := h_ar h
  obtain ⟨b206, h⟩ := h_inb h
  refine j_iast B b205 b206 dX10_init_291 ?_
  refine j_dup B dX10_init_292 rfl ?_
  refine j_iconst B dX10_init_293 (v := 5) (by decide) ?_
  refine j_iconst B dX10_init_294 (v := (-1)) (by decide) ?_
  obtain ⟨b207, h⟩ := h_ar h
  obtain ⟨b208, h⟩ := h_inb h
  refine j_iast B b207 b208 dX10_init_295 ?_
  obtain ⟨b209, h⟩ := h_ob h
  refine pf_RX10_105 B rfl b209 rfl dX10_init_296 ?_
  obtain ⟨sv210, esv210, h⟩ := h_let h
  rw [← esv210]
  refine j_locals [0] rfl ?_
  exact tX10_init_299 B E  (sv210) ((j_up (j_up (j_up (j_up (j_up (j_up vi195 sv.1 (0 : Int32).toNatClampNeg (-1)) sv.1 (1 : Int32).toNatClampNeg (-1)) sv.1 (2 : Int32).toNatClampNeg (-1)) sv.1 (3 : Int32).toNatClampNeg (-1)) sv.1 (4 : Int32).toNatClampNeg (-1)) sv.1 (5 : Int32).toNatClampNeg (-1))) (vl196) ((cs + 1)) ((ss + 6))  h
def fX10_init_259 (o : Nat) (sv : SV) (vi : VI) (vl : VL) (cs : Nat) (ss : Nat) : Option (SV × VI × VL) := if cs + 1 ≤ 34 ∧ ss + 24 ≤ 12759 then optL (j_svn sv 11 24) fun sv188 => optL (j_z0 vi sv.1 0) fun vi189 => optL (j_z0 vl sv.1 0) fun vl190 => if obB sv188 o 10 = true then optL (j_svr sv188 o 48 (sv.1 + 1)) fun sv192 => fX10_init_267 o sv192 vi189 vl190 (cs + 1) (ss + 24) else none else none
theorem tX10_init_259 {G : GT} {Γ : CT} {o : Nat} {sv' : SV} {vi' : VI} {vl' : VL} (B : Base G Γ mX10_init 1 34 12759) (E : Ends G Γ 34 12759 (QV sv' vi' vl')) : ∀ (sv : SV) (vi : VI) (vl : VL) (cs : Nat) (ss : Nat), fX10_init_259 o sv vi vl cs ss = some (sv', vi', vl') → J G Γ cs ss 259 [(0, .ref (G.1 + o))] [] sv vi vl := by
  intro sv vi vl cs ss h
  unfold fX10_init_259 at h
  refine j_aload_n B dX10_init_259 rfl 0 rfl ?_
  refine j_bipush B dX10_init_260 (v := 24) (by decide) ?_
  obtain ⟨b187, h⟩ := h_if h
  refine j_newa (N := 24) B (Or.inl ⟨rfl, rfl⟩) wac_11 (by decide) (by decide) (by decide) b187.1 b187.2 dX10_init_262 ?_
  obtain ⟨sv188, esv188, h⟩ := h_let h
  rw [← esv188]
  obtain ⟨vi189, evi189, h⟩ := h_let h
  rw [← evi189]
  obtain ⟨vl190, evl190, h⟩ := h_let h
  rw [← evl190]
  obtain ⟨b191, h⟩ := h_ob h
  refine pf_RX10_102 B rfl b191 rfl dX10_init_264 ?_
  obtain ⟨sv192, esv192, h⟩ := h_let h
  rw [← esv192]
  refine j_locals [0] rfl ?_
  exact tX10_init_267 B E  (sv192) (vi189) (vl190) ((cs + 1)) ((ss + 24))  h
def fX10_init_251 (o : Nat) (sv : SV) (vi : VI) (vl : VL) (cs : Nat) (ss : Nat) : Option (SV × VI × VL) := if cs + 1 ≤ 34 ∧ ss + 50 ≤ 12759 then optL (j_svn sv 11 50) fun sv182 => optL (j_z0 vi sv.1 0) fun vi183 => optL (j_z0 vl sv.1 0) fun vl184 => if obB sv182 o 10 = true then optL (j_svr sv182 o 46 (sv.1 + 1)) fun sv186 => fX10_init_259 o sv186 vi183 vl184 (cs + 1) (ss + 50) else none else none
theorem tX10_init_251 {G : GT} {Γ : CT} {o : Nat} {sv' : SV} {vi' : VI} {vl' : VL} (B : Base G Γ mX10_init 1 34 12759) (E : Ends G Γ 34 12759 (QV sv' vi' vl')) : ∀ (sv : SV) (vi : VI) (vl : VL) (cs : Nat) (ss : Nat), fX10_init_251 o sv vi vl cs ss = some (sv', vi', vl') → J G Γ cs ss 251 [(0, .ref (G.1 + o))] [] sv vi vl := by
  intro sv vi vl cs ss h
  unfold fX10_init_251 at h
  refine j_aload_n B dX10_init_251 rfl 0 rfl ?_
  refine j_bipush B dX10_init_252 (v := 50) (by decide) ?_
  obtain ⟨b181, h⟩ := h_if h
  refine j_newa (N := 50) B (Or.inl ⟨rfl, rfl⟩) wac_11 (by decide) (by decide) (by decide) b181.1 b181.2 dX10_init_254 ?_
  obtain ⟨sv182, esv182, h⟩ := h_let h
  rw [← esv182]
  obtain ⟨vi183, evi183, h⟩ := h_let h
  rw [← evi183]
  obtain ⟨vl184, evl184, h⟩ := h_let h
  rw [← evl184]
  obtain ⟨b185, h⟩ := h_ob h
  refine pf_RX10_99 B rfl b185 rfl dX10_init_256 ?_
  obtain ⟨sv186, esv186, h⟩ := h_let h
  rw [← esv186]
  refine j_locals [0] rfl ?_
  exact tX10_init_259 B E  (sv186) (vi183) (vl184) ((cs + 1)) ((ss + 50))  h
def fX10_init_244 (o : Nat) (sv : SV) (vi : VI) (vl : VL) (cs : Nat) (ss : Nat) : Option (SV × VI × VL) := if cs + 1 ≤ 34 ∧ ss + 5 ≤ 12759 then optL (j_svn sv 11 5) fun sv176 => optL (j_z0 vi sv.1 0) fun vi177 => optL (j_z0 vl sv.1 0) fun vl178 => if obB sv176 o 10 = true then optL (j_svr sv176 o 44 (sv.1 + 1)) fun sv180 => fX10_init_251 o sv180 vi177 vl178 (cs + 1) (ss + 5) else none else none
theorem tX10_init_244 {G : GT} {Γ : CT} {o : Nat} {sv' : SV} {vi' : VI} {vl' : VL} (B : Base G Γ mX10_init 1 34 12759) (E : Ends G Γ 34 12759 (QV sv' vi' vl')) : ∀ (sv : SV) (vi : VI) (vl : VL) (cs : Nat) (ss : Nat), fX10_init_244 o sv vi vl cs ss = some (sv', vi', vl') → J G Γ cs ss 244 [(0, .ref (G.1 + o))] [] sv vi vl := by
  intro sv vi vl cs ss h
  unfold fX10_init_244 at h
  refine j_aload_n B dX10_init_244 rfl 0 rfl ?_
  refine j_iconst B dX10_init_245 (v := 5) (by decide) ?_
  obtain ⟨b175, h⟩ := h_if h
  refine j_newa (N := 5) B (Or.inl ⟨rfl, rfl⟩) wac_11 (by decide) (by decide) (by decide) b175.1 b175.2 dX10_init_246 ?_
  obtain ⟨sv176, esv176, h⟩ := h_let h
  rw [← esv176]
  obtain ⟨vi177, evi177, h⟩ := h_let h
  rw [← evi177]
  obtain ⟨vl178, evl178, h⟩ := h_let h
  rw [← evl178]
  obtain ⟨b179, h⟩ := h_ob h
  refine pf_RX10_96 B rfl b179 rfl dX10_init_248 ?_
  obtain ⟨sv180, esv180, h⟩ := h_let h
  rw [← esv180]
  refine j_locals [0] rfl ?_
  exact tX10_init_251 B E  (sv180) (vi177) (vl178) ((cs + 1)) ((ss + 5))  h
def fX10_init_236 (o : Nat) (sv : SV) (vi : VI) (vl : VL) (cs : Nat) (ss : Nat) : Option (SV × VI × VL) := if cs + 1 ≤ 34 ∧ ss + 60 ≤ 12759 then optL (j_svn sv 11 60) fun sv170 => optL (j_z0 vi sv.1 0) fun vi171 => optL (j_z0 vl sv.1 0) fun vl172 => if obB sv170 o 10 = true then optL (j_svr sv170 o 43 (sv.1 + 1)) fun sv174 => fX10_init_244 o sv174 vi171 vl172 (cs + 1) (ss + 60) else none else none
theorem tX10_init_236 {G : GT} {Γ : CT} {o : Nat} {sv' : SV} {vi' : VI} {vl' : VL} (B : Base G Γ mX10_init 1 34 12759) (E : Ends G Γ 34 12759 (QV sv' vi' vl')) : ∀ (sv : SV) (vi : VI) (vl : VL) (cs : Nat) (ss : Nat), fX10_init_236 o sv vi vl cs ss = some (sv', vi', vl') → J G Γ cs ss 236 [(0, .ref (G.1 + o))] [] sv vi vl := by
  intro sv vi vl cs ss h
  unfold fX10_init_236 at h
  refine j_aload_n B dX10_init_236 rfl 0 rfl ?_
  refine j_bipush B dX10_init_237 (v := 60) (by decide) ?_
  obtain ⟨b169, h⟩ := h_if h
  refine j_newa (N := 60) B (Or.inl ⟨rfl, rfl⟩) wac_11 (by decide) (by decide) (by decide) b169.1 b169.2 dX10_init_239 ?_
  obtain ⟨sv170, esv170, h⟩ := h_let h
  rw [← esv170]
  obtain ⟨vi171, evi171, h⟩ := h_let h
  rw [← evi171]
  obtain ⟨vl172, evl172, h⟩ := h_let h
  rw [← evl172]
  obtain ⟨b173, h⟩ := h_ob h
  refine pf_RX10_93 B rfl b173 rfl dX10_init_241 ?_
  obtain ⟨sv174, esv174, h⟩ := h_let h
  rw [← esv174]
  refine j_locals [0] rfl ?_
  exact tX10_init_244 B E  (sv174) (vi171) (vl172) ((cs + 1)) ((ss + 60))  h
def fX10_init_228 (o : Nat) (sv : SV) (vi : VI) (vl : VL) (cs : Nat) (ss : Nat) : Option (SV × VI × VL) := if cs + 1 ≤ 34 ∧ ss + 60 ≤ 12759 then optL (j_svn sv 11 60) fun sv164 => optL (j_z0 vi sv.1 0) fun vi165 => optL (j_z0 vl sv.1 0) fun vl166 => if obB sv164 o 10 = true then optL (j_svr sv164 o 42 (sv.1 + 1)) fun sv168 => fX10_init_236 o sv168 vi165 vl166 (cs + 1) (ss + 60) else none else none
theorem tX10_init_228 {G : GT} {Γ : CT} {o : Nat} {sv' : SV} {vi' : VI} {vl' : VL} (B : Base G Γ mX10_init 1 34 12759) (E : Ends G Γ 34 12759 (QV sv' vi' vl')) : ∀ (sv : SV) (vi : VI) (vl : VL) (cs : Nat) (ss : Nat), fX10_init_228 o sv vi vl cs ss = some (sv', vi', vl') → J G Γ cs ss 228 [(0, .ref (G.1 + o))] [] sv vi vl := by
  intro sv vi vl cs ss h
  unfold fX10_init_228 at h
  refine j_aload_n B dX10_init_228 rfl 0 rfl ?_
  refine j_bipush B dX10_init_229 (v := 60) (by decide) ?_
  obtain ⟨b163, h⟩ := h_if h
  refine j_newa (N := 60) B (Or.inl ⟨rfl, rfl⟩) wac_11 (by decide) (by decide) (by decide) b163.1 b163.2 dX10_init_231 ?_
  obtain ⟨sv164, esv164, h⟩ := h_let h
  rw [← esv164]
  obtain ⟨vi165, evi165, h⟩ := h_let h
  rw [← evi165]
  obtain ⟨vl166, evl166, h⟩ := h_let h
  rw [← evl166]
  obtain ⟨b167, h⟩ := h_ob h
  refine pf_RX10_90 B rfl b167 rfl dX10_init_233 ?_
  obtain ⟨sv168, esv168, h⟩ := h_let h
  rw [← esv168]
  refine j_locals [0] rfl ?_
  exact tX10_init_236 B E  (sv168) (vi165) (vl166) ((cs + 1)) ((ss + 60))  h
def fX10_init_221 (o : Nat) (sv : SV) (vi : VI) (vl : VL) (cs : Nat) (ss : Nat) : Option (SV × VI × VL) := if cs + 1 ≤ 34 ∧ ss + 5 ≤ 12759 then optL (j_svn sv 11 5) fun sv158 => optL (j_z0 vi sv.1 0) fun vi159 => optL (j_z0 vl sv.1 0) fun vl160 => if obB sv158 o 10 = true then optL (j_svr sv158 o 41 (sv.1 + 1)) fun sv162 => fX10_init_228 o sv162 vi159 vl160 (cs + 1) (ss + 5) else none else none
theorem tX10_init_221 {G : GT} {Γ : CT} {o : Nat} {sv' : SV} {vi' : VI} {vl' : VL} (B : Base G Γ mX10_init 1 34 12759) (E : Ends G Γ 34 12759 (QV sv' vi' vl')) : ∀ (sv : SV) (vi : VI) (vl : VL) (cs : Nat) (ss : Nat), fX10_init_221 o sv vi vl cs ss = some (sv', vi', vl') → J G Γ cs ss 221 [(0, .ref (G.1 + o))] [] sv vi vl := by
  intro sv vi vl cs ss h
  unfold fX10_init_221 at h
  refine j_aload_n B dX10_init_221 rfl 0 rfl ?_
  refine j_iconst B dX10_init_222 (v := 5) (by decide) ?_
  obtain ⟨b157, h⟩ := h_if h
  refine j_newa (N := 5) B (Or.inl ⟨rfl, rfl⟩) wac_11 (by decide) (by decide) (by decide) b157.1 b157.2 dX10_init_223 ?_
  obtain ⟨sv158, esv158, h⟩ := h_let h
  rw [← esv158]
  obtain ⟨vi159, evi159, h⟩ := h_let h
  rw [← evi159]
  obtain ⟨vl160, evl160, h⟩ := h_let h
  rw [← evl160]
  obtain ⟨b161, h⟩ := h_ob h
  refine pf_RX10_87 B rfl b161 rfl dX10_init_225 ?_
  obtain ⟨sv162, esv162, h⟩ := h_let h
  rw [← esv162]
  refine j_locals [0] rfl ?_
  exact tX10_init_228 B E  (sv162) (vi159) (vl160) ((cs + 1)) ((ss + 5))  h
def fX10_init_214 (o : Nat) (sv : SV) (vi : VI) (vl : VL) (cs : Nat) (ss : Nat) : Option (SV × VI × VL) := if cs + 1 ≤ 34 ∧ ss + 5 ≤ 12759 then optL (j_svn sv 11 5) fun sv152 => optL (j_z0 vi sv.1 0) fun vi153 => optL (j_z0 vl sv.1 0) fun vl154 => if obB sv152 o 10 = true then optL (j_svr sv152 o 38 (sv.1 + 1)) fun sv156 => fX10_init_221 o sv156 vi153 vl154 (cs + 1) (ss + 5) else none else none
theorem tX10_init_214 {G : GT} {Γ : CT} {o : Nat} {sv' : SV} {vi' : VI} {vl' : VL} (B : Base G Γ mX10_init 1 34 12759) (E : Ends G Γ 34 12759 (QV sv' vi' vl')) : ∀ (sv : SV) (vi : VI) (vl : VL) (cs : Nat) (ss : Nat), fX10_init_214 o sv vi vl cs ss = some (sv', vi', vl') → J G Γ cs ss 214 [(0, .ref (G.1 + o))] [] sv vi vl := by
  intro sv vi vl cs ss h
  unfold fX10_init_214 at h
  refine j_aload_n B dX10_init_214 rfl 0 rfl ?_
  refine j_iconst B dX10_init_215 (v := 5) (by decide) ?_
  obtain ⟨b151, h⟩ := h_if h
  refine j_newa (N := 5) B (Or.inl ⟨rfl, rfl⟩) wac_11 (by decide) (by decide) (by decide) b151.1 b151.2 dX10_init_216 ?_
  obtain ⟨sv152, esv152, h⟩ := h_let h
  rw [← esv152]
  obtain ⟨vi153, evi153, h⟩ := h_let h
  rw [← evi153]
  obtain ⟨vl154, evl154, h⟩ := h_let h
  rw [← evl154]
  obtain ⟨b155, h⟩ := h_ob h
  refine pf_RX10_84 B rfl b155 rfl dX10_init_218 ?_
  obtain ⟨sv156, esv156, h⟩ := h_let h
  rw [← esv156]
  refine j_locals [0] rfl ?_
  exact tX10_init_221 B E  (sv156) (vi153) (vl154) ((cs + 1)) ((ss + 5))  h
def fX10_init_205 (o : Nat) (sv : SV) (vi : VI) (vl : VL) (cs : Nat) (ss : Nat) : Option (SV × VI × VL) := if cs + 1 ≤ 34 ∧ ss + 169 ≤ 12759 then optL (j_svn sv 11 169) fun sv146 => optL (j_z0 vi sv.1 0) fun vi147 => optL (j_z0 vl sv.1 0) fun vl148 => if obB sv146 o 10 = true then optL (j_svr sv146 o 37 (sv.1 + 1)) fun sv150 => fX10_init_214 o sv150 vi147 vl148 (cs + 1) (ss + 169) else none else none
theorem tX10_init_205 {G : GT} {Γ : CT} {o : Nat} {sv' : SV} {vi' : VI} {vl' : VL} (B : Base G Γ mX10_init 1 34 12759) (E : Ends G Γ 34 12759 (QV sv' vi' vl')) : ∀ (sv : SV) (vi : VI) (vl : VL) (cs : Nat) (ss : Nat), fX10_init_205 o sv vi vl cs ss = some (sv', vi', vl') → J G Γ cs ss 205 [(0, .ref (G.1 + o))] [] sv vi vl := by
  intro sv vi vl cs ss h
  unfold fX10_init_205 at h
  refine j_aload_n B dX10_init_205 rfl 0 rfl ?_
  refine j_sipush B dX10_init_206 (v := 169) (by decide) ?_
  obtain ⟨b145, h⟩ := h_if h
  refine j_newa (N := 169) B (Or.inl ⟨rfl, rfl⟩) wac_11 (by decide) (by decide) (by decide) b145.1 b145.2 dX10_init_209 ?_
  obtain ⟨sv146, esv146, h⟩ := h_let h
  rw [← esv146]
  obtain ⟨vi147, evi147, h⟩ := h_let h
  rw [← evi147]
  obtain ⟨vl148, evl148, h⟩ := h_let h
  rw [← evl148]
  obtain ⟨b149, h⟩ := h_ob h
  refine pf_RX10_81 B rfl b149 rfl dX10_init_211 ?_
  obtain ⟨sv150, esv150, h⟩ := h_let h
  rw [← esv150]
  refine j_locals [0] rfl ?_
  exact tX10_init_214 B E  (sv150) (vi147) (vl148) ((cs + 1)) ((ss + 169))  h
def fX10_init_196 (o : Nat) (sv : SV) (vi : VI) (vl : VL) (cs : Nat) (ss : Nat) : Option (SV × VI × VL) := if cs + 1 ≤ 34 ∧ ss + 600 ≤ 12759 then optL (j_svn sv 11 600) fun sv140 => optL (j_z0 vi sv.1 0) fun vi141 => optL (j_z0 vl sv.1 0) fun vl142 => if obB sv140 o 10 = true then optL (j_svr sv140 o 35 (sv.1 + 1)) fun sv144 => fX10_init_205 o sv144 vi141 vl142 (cs + 1) (ss + 600) else none else none
theorem tX10_init_196 {G : GT} {Γ : CT} {o : Nat} {sv' : SV} {vi' : VI} {vl' : VL} (B : Base G Γ mX10_init 1 34 12759) (E : Ends G Γ 34 12759 (QV sv' vi' vl')) : ∀ (sv : SV) (vi : VI) (vl : VL) (cs : Nat) (ss : Nat), fX10_init_196 o sv vi vl cs ss = some (sv', vi', vl') → J G Γ cs ss 196 [(0, .ref (G.1 + o))] [] sv vi vl := by
  intro sv vi vl cs ss h
  unfold fX10_init_196 at h
  refine j_aload_n B dX10_init_196 rfl 0 rfl ?_
  refine j_sipush B dX10_init_197 (v := 600) (by decide) ?_
  obtain ⟨b139, h⟩ := h_if h
  refine j_newa (N := 600) B (Or.inl ⟨rfl, rfl⟩) wac_11 (by decide) (by decide) (by decide) b139.1 b139.2 dX10_init_200 ?_
  obtain ⟨sv140, esv140, h⟩ := h_let h
  rw [← esv140]
  obtain ⟨vi141, evi141, h⟩ := h_let h
  rw [← evi141]
  obtain ⟨vl142, evl142, h⟩ := h_let h
  rw [← evl142]
  obtain ⟨b143, h⟩ := h_ob h
  refine pf_RX10_78 B rfl b143 rfl dX10_init_202 ?_
  obtain ⟨sv144, esv144, h⟩ := h_let h
  rw [← esv144]
  refine j_locals [0] rfl ?_
  exact tX10_init_205 B E  (sv144) (vi141) (vl142) ((cs + 1)) ((ss + 600))  h
def fX10_init_187 (o : Nat) (sv : SV) (vi : VI) (vl : VL) (cs : Nat) (ss : Nat) : Option (SV × VI × VL) := if cs + 1 ≤ 34 ∧ ss + 10000 ≤ 12759 then optL (j_svn sv 20 10000) fun sv134 => optL (j_z0 vi sv.1 0) fun vi135 => optL (j_z0 vl sv.1 0) fun vl136 => if obB sv134 o 10 = true then optL (j_svr sv134 o 34 (sv.1 + 1)) fun sv138 => fX10_init_196 o sv138 vi135 vl136 (cs + 1) (ss + 10000) else none else none
theorem tX10_init_187 {G : GT} {Γ : CT} {o : Nat} {sv' : SV} {vi' : VI} {vl' : VL} (B : Base G Γ mX10_init 1 34 12759) (E : Ends G Γ 34 12759 (QV sv' vi' vl')) : ∀ (sv : SV) (vi : VI) (vl : VL) (cs : Nat) (ss : Nat), fX10_init_187 o sv vi vl cs ss = some (sv', vi', vl') → J G Γ cs ss 187 [(0, .ref (G.1 + o))] [] sv vi vl := by
  intro sv vi vl cs ss h
  unfold fX10_init_187 at h
  refine j_aload_n B dX10_init_187 rfl 0 rfl ?_
  refine j_sipush B dX10_init_188 (v := 10000) (by decide) ?_
  obtain ⟨b133, h⟩ := h_if h
  refine j_newa (N := 10000) B (Or.inr (Or.inr (Or.inr ⟨rfl, rfl⟩))) wac_20 (by decide) (by decide) (by decide) b133.1 b133.2 dX10_init_191 ?_
  obtain ⟨sv134, esv134, h⟩ := h_let h
  rw [← esv134]
  obtain ⟨vi135, evi135, h⟩ := h_let h
  rw [← evi135]
  obtain ⟨vl136, evl136, h⟩ := h_let h
  rw [← evl136]
  obtain ⟨b137, h⟩ := h_ob h
  refine pf_RX10_74 B rfl b137 rfl dX10_init_193 ?_
  obtain ⟨sv138, esv138, h⟩ := h_let h
  rw [← esv138]
  refine j_locals [0] rfl ?_
  exact tX10_init_196 B E  (sv138) (vi135) (vl136) ((cs + 1)) ((ss + 10000))  h
def fX10_init_179 (o : Nat) (sv : SV) (vi : VI) (vl : VL) (cs : Nat) (ss : Nat) : Option (SV × VI × VL) := if cs + 1 ≤ 34 ∧ ss + 13 ≤ 12759 then optL (j_svn sv 11 13) fun sv128 => optL (j_z0 vi sv.1 0) fun vi129 => optL (j_z0 vl sv.1 0) fun vl130 => if obB sv128 o 10 = true then optL (j_svr sv128 o 32 (sv.1 + 1)) fun sv132 => fX10_init_187 o sv132 vi129 vl130 (cs + 1) (ss + 13) else none else none
theorem tX10_init_179 {G : GT} {Γ : CT} {o : Nat} {sv' : SV} {vi' : VI} {vl' : VL} (B : Base G Γ mX10_init 1 34 12759) (E : Ends G Γ 34 12759 (QV sv' vi' vl')) : ∀ (sv : SV) (vi : VI) (vl : VL) (cs : Nat) (ss : Nat), fX10_init_179 o sv vi vl cs ss = some (sv', vi', vl') → J G Γ cs ss 179 [(0, .ref (G.1 + o))] [] sv vi vl := by
  intro sv vi vl cs ss h
  unfold fX10_init_179 at h
  refine j_aload_n B dX10_init_179 rfl 0 rfl ?_
  refine j_bipush B dX10_init_180 (v := 13) (by decide) ?_
  obtain ⟨b127, h⟩ := h_if h
  refine j_newa (N := 13) B (Or.inl ⟨rfl, rfl⟩) wac_11 (by decide) (by decide) (by decide) b127.1 b127.2 dX10_init_182 ?_
  obtain ⟨sv128, esv128, h⟩ := h_let h
  rw [← esv128]
  obtain ⟨vi129, evi129, h⟩ := h_let h
  rw [← evi129]
  obtain ⟨vl130, evl130, h⟩ := h_let h
  rw [← evl130]
  obtain ⟨b131, h⟩ := h_ob h
  refine pf_RX10_71 B rfl b131 rfl dX10_init_184 ?_
  obtain ⟨sv132, esv132, h⟩ := h_let h
  rw [← esv132]
  refine j_locals [0] rfl ?_
  exact tX10_init_187 B E  (sv132) (vi129) (vl130) ((cs + 1)) ((ss + 13))  h
def fX10_init_171 (o : Nat) (sv : SV) (vi : VI) (vl : VL) (cs : Nat) (ss : Nat) : Option (SV × VI × VL) := if cs + 1 ≤ 34 ∧ ss + 13 ≤ 12759 then optL (j_svn sv 11 13) fun sv122 => optL (j_z0 vi sv.1 0) fun vi123 => optL (j_z0 vl sv.1 0) fun vl124 => if obB sv122 o 10 = true then optL (j_svr sv122 o 31 (sv.1 + 1)) fun sv126 => fX10_init_179 o sv126 vi123 vl124 (cs + 1) (ss + 13) else none else none
theorem tX10_init_171 {G : GT} {Γ : CT} {o : Nat} {sv' : SV} {vi' : VI} {vl' : VL} (B : Base G Γ mX10_init 1 34 12759) (E : Ends G Γ 34 12759 (QV sv' vi' vl')) : ∀ (sv : SV) (vi : VI) (vl : VL) (cs : Nat) (ss : Nat), fX10_init_171 o sv vi vl cs ss = some (sv', vi', vl') → J G Γ cs ss 171 [(0, .ref (G.1 + o))] [] sv vi vl := by
  intro sv vi vl cs ss h
  unfold fX10_init_171 at h
  refine j_aload_n B dX10_init_171 rfl 0 rfl ?_
  refine j_bipush B dX10_init_172 (v := 13) (by decide) ?_
  obtain ⟨b121, h⟩ := h_if h
  refine j_newa (N := 13) B (Or.inl ⟨rfl, rfl⟩) wac_11 (by decide) (by decide) (by decide) b121.1 b121.2 dX10_init_174 ?_
  obtain ⟨sv122, esv122, h⟩ := h_let h
  rw [← esv122]
  obtain ⟨vi123, evi123, h⟩ := h_let h
  rw [← evi123]
  obtain ⟨vl124, evl124, h⟩ := h_let h
  rw [← evl124]
  obtain ⟨b125, h⟩ := h_ob h
  refine pf_RX10_68 B rfl b125 rfl dX10_init_176 ?_
  obtain ⟨sv126, esv126, h⟩ := h_let h
  rw [← esv126]
  refine j_locals [0] rfl ?_
  exact tX10_init_179 B E  (sv126) (vi123) (vl124) ((cs + 1)) ((ss + 13))  h
def fX10_init_162 (o : Nat) (sv : SV) (vi : VI) (vl : VL) (cs : Nat) (ss : Nat) : Option (SV × VI × VL) := if cs + 1 ≤ 34 ∧ ss + 130 ≤ 12759 then optL (j_svn sv 11 130) fun sv116 => optL (j_z0 vi sv.1 0) fun vi117 => optL (j_z0 vl sv.1 0) fun vl118 => if obB sv116 o 10 = true then optL (j_svr sv116 o 27 (sv.1 + 1)) fun sv120 => fX10_init_171 o sv120 vi117 vl118 (cs + 1) (ss + 130) else none else none
theorem tX10_init_162 {G : GT} {Γ : CT} {o : Nat} {sv' : SV} {vi' : VI} {vl' : VL} (B : Base G Γ mX10_init 1 34 12759) (E : Ends G Γ 34 12759 (QV sv' vi' vl')) : ∀ (sv : SV) (vi : VI) (vl : VL) (cs : Nat) (ss : Nat), fX10_init_162 o sv vi vl cs ss = some (sv', vi', vl') → J G Γ cs ss 162 [(0, .ref (G.1 + o))] [] sv vi vl := by
  intro sv vi vl cs ss h
  unfold fX10_init_162 at h
  refine j_aload_n B dX10_init_162 rfl 0 rfl ?_
  refine j_sipush B dX10_init_163 (v := 130) (by decide) ?_
  obtain ⟨b115, h⟩ := h_if h
  refine j_newa (N := 130) B (Or.inl ⟨rfl, rfl⟩) wac_11 (by decide) (by decide) (by decide) b115.1 b115.2 dX10_init_166 ?_
  obtain ⟨sv116, esv116, h⟩ := h_let h
  rw [← esv116]
  obtain ⟨vi117, evi117, h⟩ := h_let h
  rw [← evi117]
  obtain ⟨vl118, evl118, h⟩ := h_let h
  rw [← evl118]
  obtain ⟨b119, h⟩ := h_ob h
  refine pf_RX10_65 B rfl b119 rfl dX10_init_168 ?_
  obtain ⟨sv120, esv120, h⟩ := h_let h
  rw [← esv120]
  refine j_locals [0] rfl ?_
  exact tX10_init_171 B E  (sv120) (vi117) (vl118) ((cs + 1)) ((ss + 130))  h
def fX10_init_154 (o : Nat) (sv : SV) (vi : VI) (vl : VL) (cs : Nat) (ss : Nat) : Option (SV × VI × VL) := if cs + 1 ≤ 34 ∧ ss + 6 ≤ 12759 then optL (j_svn sv 11 6) fun sv110 => optL (j_z0 vi sv.1 0) fun vi111 => optL (j_z0 vl sv.1 0) fun vl112 => if obB sv110 o 10 = true then optL (j_svr sv110 o 26 (sv.1 + 1)) fun sv114 => fX10_init_162 o sv114 vi111 vl112 (cs + 1) (ss + 6) else none else none
theorem tX10_init_154 {G : GT} {Γ : CT} {o : Nat} {sv' : SV} {vi' : VI} {vl' : VL} (B : Base G Γ mX10_init 1 34 12759) (E : Ends G Γ 34 12759 (QV sv' vi' vl')) : ∀ (sv : SV) (vi : VI) (vl : VL) (cs : Nat) (ss : Nat), fX10_init_154 o sv vi vl cs ss = some (sv', vi', vl') → J G Γ cs ss 154 [(0, .ref (G.1 + o))] [] sv vi vl := by
  intro sv vi vl cs ss h
  unfold fX10_init_154 at h
  refine j_aload_n B dX10_init_154 rfl 0 rfl ?_
  refine j_bipush B dX10_init_155 (v := 6) (by decide) ?_
  obtain ⟨b109, h⟩ := h_if h
  refine j_newa (N := 6) B (Or.inl ⟨rfl, rfl⟩) wac_11 (by decide) (by decide) (by decide) b109.1 b109.2 dX10_init_157 ?_
  obtain ⟨sv110, esv110, h⟩ := h_let h
  rw [← esv110]
  obtain ⟨vi111, evi111, h⟩ := h_let h
  rw [← evi111]
  obtain ⟨vl112, evl112, h⟩ := h_let h
  rw [← evl112]
  obtain ⟨b113, h⟩ := h_ob h
  refine pf_RX10_62 B rfl b113 rfl dX10_init_159 ?_
  obtain ⟨sv114, esv114, h⟩ := h_let h
  rw [← esv114]
  refine j_locals [0] rfl ?_
  exact tX10_init_162 B E  (sv114) (vi111) (vl112) ((cs + 1)) ((ss + 6))  h
def fX10_init_146 (o : Nat) (sv : SV) (vi : VI) (vl : VL) (cs : Nat) (ss : Nat) : Option (SV × VI × VL) := if cs + 1 ≤ 34 ∧ ss + 122 ≤ 12759 then optL (j_svn sv 13 122) fun sv104 => optL (j_z0 vi sv.1 0) fun vi105 => optL (j_z0 vl sv.1 0) fun vl106 => if obB sv104 o 10 = true then optL (j_svr sv104 o 25 (sv.1 + 1)) fun sv108 => fX10_init_154 o sv108 vi105 vl106 (cs + 1) (ss + 122) else none else none
theorem tX10_init_146 {G : GT} {Γ : CT} {o : Nat} {sv' : SV} {vi' : VI} {vl' : VL} (B : Base G Γ mX10_init 1 34 12759) (E : Ends G Γ 34 12759 (QV sv' vi' vl')) : ∀ (sv : SV) (vi : VI) (vl : VL) (cs : Nat) (ss : Nat), fX10_init_146 o sv vi vl cs ss = some (sv', vi', vl') → J G Γ cs ss 146 [(0, .ref (G.1 + o))] [] sv vi vl := by
  intro sv vi vl cs ss h
  unfold fX10_init_146 at h
  refine j_aload_n B dX10_init_146 rfl 0 rfl ?_
  refine j_bipush B dX10_init_147 (v := 122) (by decide) ?_
  obtain ⟨b103, h⟩ := h_if h
  refine j_newa (N := 122) B (Or.inr (Or.inr (Or.inl ⟨rfl, rfl⟩))) wac_13 (by decide) (by decide) (by decide) b103.1 b103.2 dX10_init_149 ?_
  obtain ⟨sv104, esv104, h⟩ := h_let h
  rw [← esv104]
  obtain ⟨vi105, evi105, h⟩ := h_let h
  rw [← evi105]
  obtain ⟨vl106, evl106, h⟩ := h_let h
  rw [← evl106]
  obtain ⟨b107, h⟩ := h_ob h
  refine pf_RX10_59 B rfl b107 rfl dX10_init_151 ?_
  obtain ⟨sv108, esv108, h⟩ := h_let h
  rw [← esv108]
  refine j_locals [0] rfl ?_
  exact tX10_init_154 B E  (sv108) (vi105) (vl106) ((cs + 1)) ((ss + 122))  h
def fX10_init_138 (o : Nat) (sv : SV) (vi : VI) (vl : VL) (cs : Nat) (ss : Nat) : Option (SV × VI × VL) := if cs + 1 ≤ 34 ∧ ss + 122 ≤ 12759 then optL (j_svn sv 13 122) fun sv98 => optL (j_z0 vi sv.1 0) fun vi99 => optL (j_z0 vl sv.1 0) fun vl100 => if obB sv98 o 10 = true then optL (j_svr sv98 o 24 (sv.1 + 1)) fun sv102 => fX10_init_146 o sv102 vi99 vl100 (cs + 1) (ss + 122) else none else none
theorem tX10_init_138 {G : GT} {Γ : CT} {o : Nat} {sv' : SV} {vi' : VI} {vl' : VL} (B : Base G Γ mX10_init 1 34 12759) (E : Ends G Γ 34 12759 (QV sv' vi' vl')) : ∀ (sv : SV) (vi : VI) (vl : VL) (cs : Nat) (ss : Nat), fX10_init_138 o sv vi vl cs ss = some (sv', vi', vl') → J G Γ cs ss 138 [(0, .ref (G.1 + o))] [] sv vi vl := by
  intro sv vi vl cs ss h
  unfold fX10_init_138 at h
  refine j_aload_n B dX10_init_138 rfl 0 rfl ?_
  refine j_bipush B dX10_init_139 (v := 122) (by decide) ?_
  obtain ⟨b97, h⟩ := h_if h
  refine j_newa (N := 122) B (Or.inr (Or.inr (Or.inl ⟨rfl, rfl⟩))) wac_13 (by decide) (by decide) (by decide) b97.1 b97.2 dX10_init_141 ?_
  obtain ⟨sv98, esv98, h⟩ := h_let h
  rw [← esv98]
  obtain ⟨vi99, evi99, h⟩ := h_let h
  rw [← evi99]
  obtain ⟨vl100, evl100, h⟩ := h_let h
  rw [← evl100]
  obtain ⟨b101, h⟩ := h_ob h
  refine pf_RX10_55 B rfl b101 rfl dX10_init_143 ?_
  obtain ⟨sv102, esv102, h⟩ := h_let h
  rw [← esv102]
  refine j_locals [0] rfl ?_
  exact tX10_init_146 B E  (sv102) (vi99) (vl100) ((cs + 1)) ((ss + 122))  h
def fX10_init_131 (o : Nat) (sv : SV) (vi : VI) (vl : VL) (cs : Nat) (ss : Nat) : Option (SV × VI × VL) := if cs + 1 ≤ 34 ∧ ss + 2 ≤ 12759 then optL (j_svn sv 11 2) fun sv92 => optL (j_z0 vi sv.1 0) fun vi93 => optL (j_z0 vl sv.1 0) fun vl94 => if obB sv92 o 10 = true then optL (j_svr sv92 o 23 (sv.1 + 1)) fun sv96 => fX10_init_138 o sv96 vi93 vl94 (cs + 1) (ss + 2) else none else none
theorem tX10_init_131 {G : GT} {Γ : CT} {o : Nat} {sv' : SV} {vi' : VI} {vl' : VL} (B : Base G Γ mX10_init 1 34 12759) (E : Ends G Γ 34 12759 (QV sv' vi' vl')) : ∀ (sv : SV) (vi : VI) (vl : VL) (cs : Nat) (ss : Nat), fX10_init_131 o sv vi vl cs ss = some (sv', vi', vl') → J G Γ cs ss 131 [(0, .ref (G.1 + o))] [] sv vi vl := by
  intro sv vi vl cs ss h
  unfold fX10_init_131 at h
  refine j_aload_n B dX10_init_131 rfl 0 rfl ?_
  refine j_iconst B dX10_init_132 (v := 2) (by decide) ?_
  obtain ⟨b91, h⟩ := h_if h
  refine j_newa (N := 2) B (Or.inl ⟨rfl, rfl⟩) wac_11 (by decide) (by decide) (by decide) b91.1 b91.2 dX10_init_133 ?_
  obtain ⟨sv92, esv92, h⟩ := h_let h
  rw [← esv92]
  obtain ⟨vi93, evi93, h⟩ := h_let h
  rw [← evi93]
  obtain ⟨vl94, evl94, h⟩ := h_let h
  rw [← evl94]
  obtain ⟨b95, h⟩ := h_ob h
  refine pf_RX10_52 B rfl b95 rfl dX10_init_135 ?_
  obtain ⟨sv96, esv96, h⟩ := h_let h
  rw [← esv96]
  refine j_locals [0] rfl ?_
  exact tX10_init_138 B E  (sv96) (vi93) (vl94) ((cs + 1)) ((ss + 2))  h
def fX10_init_122 (o : Nat) (sv : SV) (vi : VI) (vl : VL) (cs : Nat) (ss : Nat) : Option (SV × VI × VL) := if cs + 1 ≤ 34 ∧ ss + 260 ≤ 12759 then optL (j_svn sv 11 260) fun sv86 => optL (j_z0 vi sv.1 0) fun vi87 => optL (j_z0 vl sv.1 0) fun vl88 => if obB sv86 o 10 = true then optL (j_svr sv86 o 22 (sv.1 + 1)) fun sv90 => fX10_init_131 o sv90 vi87 vl88 (cs + 1) (ss + 260) else none else none
theorem tX10_init_122 {G : GT} {Γ : CT} {o : Nat} {sv' : SV} {vi' : VI} {vl' : VL} (B : Base G Γ mX10_init 1 34 12759) (E : Ends G Γ 34 12759 (QV sv' vi' vl')) : ∀ (sv : SV) (vi : VI) (vl : VL) (cs : Nat) (ss : Nat), fX10_init_122 o sv vi vl cs ss = some (sv', vi', vl') → J G Γ cs ss 122 [(0, .ref (G.1 + o))] [] sv vi vl := by
  intro sv vi vl cs ss h
  unfold fX10_init_122 at h
  refine j_aload_n B dX10_init_122 rfl 0 rfl ?_
  refine j_sipush B dX10_init_123 (v := 260) (by decide) ?_
  obtain ⟨b85, h⟩ := h_if h
  refine j_newa (N := 260) B (Or.inl ⟨rfl, rfl⟩) wac_11 (by decide) (by decide) (by decide) b85.1 b85.2 dX10_init_126 ?_
  obtain ⟨sv86, esv86, h⟩ := h_let h
  rw [← esv86]
  obtain ⟨vi87, evi87, h⟩ := h_let h
  rw [← evi87]
  obtain ⟨vl88, evl88, h⟩ := h_let h
  rw [← evl88]
  obtain ⟨b89, h⟩ := h_ob h
  refine pf_RX10_49 B rfl b89 rfl dX10_init_128 ?_
  obtain ⟨sv90, esv90, h⟩ := h_let h
  rw [← esv90]
  refine j_locals [0] rfl ?_
  exact tX10_init_131 B E  (sv90) (vi87) (vl88) ((cs + 1)) ((ss + 260))  h
def fX10_init_113 (o : Nat) (sv : SV) (vi : VI) (vl : VL) (cs : Nat) (ss : Nat) : Option (SV × VI × VL) := if cs + 1 ≤ 34 ∧ ss + 260 ≤ 12759 then optL (j_svn sv 12 260) fun sv80 => optL (j_z0 vi sv.1 0) fun vi81 => optL (j_z0 vl sv.1 0) fun vl82 => if obB sv80 o 10 = true then optL (j_svr sv80 o 21 (sv.1 + 1)) fun sv84 => fX10_init_122 o sv84 vi81 vl82 (cs + 1) (ss + 260) else none else none
theorem tX10_init_113 {G : GT} {Γ : CT} {o : Nat} {sv' : SV} {vi' : VI} {vl' : VL} (B : Base G Γ mX10_init 1 34 12759) (E : Ends G Γ 34 12759 (QV sv' vi' vl')) : ∀ (sv : SV) (vi : VI) (vl : VL) (cs : Nat) (ss : Nat), fX10_init_113 o sv vi vl cs ss = some (sv', vi', vl') → J G Γ cs ss 113 [(0, .ref (G.1 + o))] [] sv vi vl := by
  intro sv vi vl cs ss h
  unfold fX10_init_113 at h
  refine j_aload_n B dX10_init_113 rfl 0 rfl ?_
  refine j_sipush B dX10_init_114 (v := 260) (by decide) ?_
  obtain ⟨b79, h⟩ := h_if h
  refine j_newa (N := 260) B (Or.inr (Or.inl ⟨rfl, rfl⟩)) wac_12 (by decide) (by decide) (by decide) b79.1 b79.2 dX10_init_117 ?_
  obtain ⟨sv80, esv80, h⟩ := h_let h
  rw [← esv80]
  obtain ⟨vi81, evi81, h⟩ := h_let h
  rw [← evi81]
  obtain ⟨vl82, evl82, h⟩ := h_let h
  rw [← evl82]
  obtain ⟨b83, h⟩ := h_ob h
  refine pf_RX10_46 B rfl b83 rfl dX10_init_119 ?_
  obtain ⟨sv84, esv84, h⟩ := h_let h
  rw [← esv84]
  refine j_locals [0] rfl ?_
  exact tX10_init_122 B E  (sv84) (vi81) (vl82) ((cs + 1)) ((ss + 260))  h
def fX10_init_105 (o : Nat) (sv : SV) (vi : VI) (vl : VL) (cs : Nat) (ss : Nat) : Option (SV × VI × VL) := if cs + 1 ≤ 34 ∧ ss + 120 ≤ 12759 then optL (j_svn sv 12 120) fun sv74 => optL (j_z0 vi sv.1 0) fun vi75 => optL (j_z0 vl sv.1 0) fun vl76 => if obB sv74 o 10 = true then optL (j_svr sv74 o 15 (sv.1 + 1)) fun sv78 => fX10_init_113 o sv78 vi75 vl76 (cs + 1) (ss + 120) else none else none
theorem tX10_init_105 {G : GT} {Γ : CT} {o : Nat} {sv' : SV} {vi' : VI} {vl' : VL} (B : Base G Γ mX10_init 1 34 12759) (E : Ends G Γ 34 12759 (QV sv' vi' vl')) : ∀ (sv : SV) (vi : VI) (vl : VL) (cs : Nat) (ss : Nat), fX10_init_105 o sv vi vl cs ss = some (sv', vi', vl') → J G Γ cs ss 105 [(0, .ref (G.1 + o))] [] sv vi vl := by
  intro sv vi vl cs ss h
  unfold fX10_init_105 at h
  refine j_aload_n B dX10_init_105 rfl 0 rfl ?_
  refine j_bipush B dX10_init_106 (v := 120) (by decide) ?_
  obtain ⟨b73, h⟩ := h_if h
  refine j_newa (N := 120) B (Or.inr (Or.inl ⟨rfl, rfl⟩)) wac_12 (by decide) (by decide) (by decide) b73.1 b73.2 dX10_init_108 ?_
  obtain ⟨sv74, esv74, h⟩ := h_let h
  rw [← esv74]
  obtain ⟨vi75, evi75, h⟩ := h_let h
  rw [← evi75]
  obtain ⟨vl76, evl76, h⟩ := h_let h
  rw [← evl76]
  obtain ⟨b77, h⟩ := h_ob h
  refine pf_RX10_42 B rfl b77 rfl dX10_init_110 ?_
  obtain ⟨sv78, esv78, h⟩ := h_let h
  rw [← esv78]
  refine j_locals [0] rfl ?_
  exact tX10_init_113 B E  (sv78) (vi75) (vl76) ((cs + 1)) ((ss + 120))  h
def fX10_init_97 (o : Nat) (sv : SV) (vi : VI) (vl : VL) (cs : Nat) (ss : Nat) : Option (SV × VI × VL) := if cs + 1 ≤ 34 ∧ ss + 40 ≤ 12759 then optL (j_svn sv 11 40) fun sv68 => optL (j_z0 vi sv.1 0) fun vi69 => optL (j_z0 vl sv.1 0) fun vl70 => if obB sv68 o 10 = true then optL (j_svr sv68 o 14 (sv.1 + 1)) fun sv72 => fX10_init_105 o sv72 vi69 vl70 (cs + 1) (ss + 40) else none else none
theorem tX10_init_97 {G : GT} {Γ : CT} {o : Nat} {sv' : SV} {vi' : VI} {vl' : VL} (B : Base G Γ mX10_init 1 34 12759) (E : Ends G Γ 34 12759 (QV sv' vi' vl')) : ∀ (sv : SV) (vi : VI) (vl : VL) (cs : Nat) (ss : Nat), fX10_init_97 o sv vi vl cs ss = some (sv', vi', vl') → J G Γ cs ss 97 [(0, .ref (G.1 + o))] [] sv vi vl := by
  intro sv vi vl cs ss h
  unfold fX10_init_97 at h
  refine j_aload_n B dX10_init_97 rfl 0 rfl ?_
  refine j_bipush B dX10_init_98 (v := 40) (by decide) ?_
  obtain ⟨b67, h⟩ := h_if h
  refine j_newa (N := 40) B (Or.inl ⟨rfl, rfl⟩) wac_11 (by decide) (by decide) (by decide) b67.1 b67.2 dX10_init_100 ?_
  obtain ⟨sv68, esv68, h⟩ := h_let h
  rw [← esv68]
  obtain ⟨vi69, evi69, h⟩ := h_let h
  rw [← evi69]
  obtain ⟨vl70, evl70, h⟩ := h_let h
  rw [← evl70]
  obtain ⟨b71, h⟩ := h_ob h
  refine pf_RX10_39 B rfl b71 rfl dX10_init_102 ?_
  obtain ⟨sv72, esv72, h⟩ := h_let h
  rw [← esv72]
  refine j_locals [0] rfl ?_
  exact tX10_init_105 B E  (sv72) (vi69) (vl70) ((cs + 1)) ((ss + 40))  h
def fX10_init_89 (o : Nat) (sv : SV) (vi : VI) (vl : VL) (cs : Nat) (ss : Nat) : Option (SV × VI × VL) := if cs + 1 ≤ 34 ∧ ss + 40 ≤ 12759 then optL (j_svn sv 11 40) fun sv62 => optL (j_z0 vi sv.1 0) fun vi63 => optL (j_z0 vl sv.1 0) fun vl64 => if obB sv62 o 10 = true then optL (j_svr sv62 o 13 (sv.1 + 1)) fun sv66 => fX10_init_97 o sv66 vi63 vl64 (cs + 1) (ss + 40) else none else none
theorem tX10_init_89 {G : GT} {Γ : CT} {o : Nat} {sv' : SV} {vi' : VI} {vl' : VL} (B : Base G Γ mX10_init 1 34 12759) (E : Ends G Γ 34 12759 (QV sv' vi' vl')) : ∀ (sv : SV) (vi : VI) (vl : VL) (cs : Nat) (ss : Nat), fX10_init_89 o sv vi vl cs ss = some (sv', vi', vl') → J G Γ cs ss 89 [(0, .ref (G.1 + o))] [] sv vi vl := by
  intro sv vi vl cs ss h
  unfold fX10_init_89 at h
  refine j_aload_n B dX10_init_89 rfl 0 rfl ?_
  refine j_bipush B dX10_init_90 (v := 40) (by decide) ?_
  obtain ⟨b61, h⟩ := h_if h
  refine j_newa (N := 40) B (Or.inl ⟨rfl, rfl⟩) wac_11 (by decide) (by decide) (by decide) b61.1 b61.2 dX10_init_92 ?_
  obtain ⟨sv62, esv62, h⟩ := h_let h
  rw [← esv62]
  obtain ⟨vi63, evi63, h⟩ := h_let h
  rw [← evi63]
  obtain ⟨vl64, evl64, h⟩ := h_let h
  rw [← evl64]
  obtain ⟨b65, h⟩ := h_ob h
  refine pf_RX10_36 B rfl b65 rfl dX10_init_94 ?_
  obtain ⟨sv66, esv66, h⟩ := h_let h
  rw [← esv66]
  refine j_locals [0] rfl ?_
  exact tX10_init_97 B E  (sv66) (vi63) (vl64) ((cs + 1)) ((ss + 40))  h
def fX10_init_81 (o : Nat) (sv : SV) (vi : VI) (vl : VL) (cs : Nat) (ss : Nat) : Option (SV × VI × VL) := if cs + 1 ≤ 34 ∧ ss + 40 ≤ 12759 then optL (j_svn sv 11 40) fun sv56 => optL (j_z0 vi sv.1 0) fun vi57 => optL (j_z0 vl sv.1 0) fun vl58 => if obB sv56 o 10 = true then optL (j_svr sv56 o 12 (sv.1 + 1)) fun sv60 => fX10_init_89 o sv60 vi57 vl58 (cs + 1) (ss + 40) else none else none
theorem tX10_init_81 {G : GT} {Γ : CT} {o : Nat} {sv' : SV} {vi' : VI} {vl' : VL} (B : Base G Γ mX10_init 1 34 12759) (E : Ends G Γ 34 12759 (QV sv' vi' vl')) : ∀ (sv : SV) (vi : VI) (vl : VL) (cs : Nat) (ss : Nat), fX10_init_81 o sv vi vl cs ss = some (sv', vi', vl') → J G Γ cs ss 81 [(0, .ref (G.1 + o))] [] sv vi vl := by
  intro sv vi vl cs ss h
  unfold fX10_init_81 at h
  refine j_aload_n B dX10_init_81 rfl 0 rfl ?_
  refine j_bipush B dX10_init_82 (v := 40) (by decide) ?_
  obtain ⟨b55, h⟩ := h_if h
  refine j_newa (N := 40) B (Or.inl ⟨rfl, rfl⟩) wac_11 (by decide) (by decide) (by decide) b55.1 b55.2 dX10_init_84 ?_
  obtain ⟨sv56, esv56, h⟩ := h_let h
  rw [← esv56]
  obtain ⟨vi57, evi57, h⟩ := h_let h
  rw [← evi57]
  obtain ⟨vl58, evl58, h⟩ := h_let h
  rw [← evl58]
  obtain ⟨b59, h⟩ := h_ob h
  refine pf_RX10_33 B rfl b59 rfl dX10_init_86 ?_
  obtain ⟨sv60, esv60, h⟩ := h_let h
  rw [← esv60]
  refine j_locals [0] rfl ?_
  exact tX10_init_89 B E  (sv60) (vi57) (vl58) ((cs + 1)) ((ss + 40))  h
def fX10_init_73 (o : Nat) (sv : SV) (vi : VI) (vl : VL) (cs : Nat) (ss : Nat) : Option (SV × VI × VL) := if cs + 1 ≤ 34 ∧ ss + 40 ≤ 12759 then optL (j_svn sv 11 40) fun sv50 => optL (j_z0 vi sv.1 0) fun vi51 => optL (j_z0 vl sv.1 0) fun vl52 => if obB sv50 o 10 = true then optL (j_svr sv50 o 11 (sv.1 + 1)) fun sv54 => fX10_init_81 o sv54 vi51 vl52 (cs + 1) (ss + 40) else none else none
theorem tX10_init_73 {G : GT} {Γ : CT} {o : Nat} {sv' : SV} {vi' : VI} {vl' : VL} (B : Base G Γ mX10_init 1 34 12759) (E : Ends G Γ 34 12759 (QV sv' vi' vl')) : ∀ (sv : SV) (vi : VI) (vl : VL) (cs : Nat) (ss : Nat), fX10_init_73 o sv vi vl cs ss = some (sv', vi', vl') → J G Γ cs ss 73 [(0, .ref (G.1 + o))] [] sv vi vl := by
  intro sv vi vl cs ss h
  unfold fX10_init_73 at h
  refine j_aload_n B dX10_init_73 rfl 0 rfl ?_
  refine j_bipush B dX10_init_74 (v := 40) (by decide) ?_
  obtain ⟨b49, h⟩ := h_if h
  refine j_newa (N := 40) B (Or.inl ⟨rfl, rfl⟩) wac_11 (by decide) (by decide) (by decide) b49.1 b49.2 dX10_init_76 ?_
  obtain ⟨sv50, esv50, h⟩ := h_let h
  rw [← esv50]
  obtain ⟨vi51, evi51, h⟩ := h_let h
  rw [← evi51]
  obtain ⟨vl52, evl52, h⟩ := h_let h
  rw [← evl52]
  obtain ⟨b53, h⟩ := h_ob h
  refine pf_RX10_30 B rfl b53 rfl dX10_init_78 ?_
  obtain ⟨sv54, esv54, h⟩ := h_let h
  rw [← esv54]
  refine j_locals [0] rfl ?_
  exact tX10_init_81 B E  (sv54) (vi51) (vl52) ((cs + 1)) ((ss + 40))  h
def fX10_init_65 (o : Nat) (sv : SV) (vi : VI) (vl : VL) (cs : Nat) (ss : Nat) : Option (SV × VI × VL) := if cs + 1 ≤ 34 ∧ ss + 60 ≤ 12759 then optL (j_svn sv 11 60) fun sv44 => optL (j_z0 vi sv.1 0) fun vi45 => optL (j_z0 vl sv.1 0) fun vl46 => if obB sv44 o 10 = true then optL (j_svr sv44 o 8 (sv.1 + 1)) fun sv48 => fX10_init_73 o sv48 vi45 vl46 (cs + 1) (ss + 60) else none else none
theorem tX10_init_65 {G : GT} {Γ : CT} {o : Nat} {sv' : SV} {vi' : VI} {vl' : VL} (B : Base G Γ mX10_init 1 34 12759) (E : Ends G Γ 34 12759 (QV sv' vi' vl')) : ∀ (sv : SV) (vi : VI) (vl : VL) (cs : Nat) (ss : Nat), fX10_init_65 o sv vi vl cs ss = some (sv', vi', vl') → J G Γ cs ss 65 [(0, .ref (G.1 + o))] [] sv vi vl := by
  intro sv vi vl cs ss h
  unfold fX10_init_65 at h
  refine j_aload_n B dX10_init_65 rfl 0 rfl ?_
  refine j_bipush B dX10_init_66 (v := 60) (by decide) ?_
  obtain ⟨b43, h⟩ := h_if h
  refine j_newa (N := 60) B (Or.inl ⟨rfl, rfl⟩) wac_11 (by decide) (by decide) (by decide) b43.1 b43.2 dX10_init_68 ?_
  obtain ⟨sv44, esv44, h⟩ := h_let h
  rw [← esv44]
  obtain ⟨vi45, evi45, h⟩ := h_let h
  rw [← evi45]
  obtain ⟨vl46, evl46, h⟩ := h_let h
  rw [← evl46]
  obtain ⟨b47, h⟩ := h_ob h
  refine pf_RX10_27 B rfl b47 rfl dX10_init_70 ?_
  obtain ⟨sv48, esv48, h⟩ := h_let h
  rw [← esv48]
  refine j_locals [0] rfl ?_
  exact tX10_init_73 B E  (sv48) (vi45) (vl46) ((cs + 1)) ((ss + 60))  h
def fX10_init_57 (o : Nat) (sv : SV) (vi : VI) (vl : VL) (cs : Nat) (ss : Nat) : Option (SV × VI × VL) := if cs + 1 ≤ 34 ∧ ss + 60 ≤ 12759 then optL (j_svn sv 11 60) fun sv38 => optL (j_z0 vi sv.1 0) fun vi39 => optL (j_z0 vl sv.1 0) fun vl40 => if obB sv38 o 10 = true then optL (j_svr sv38 o 7 (sv.1 + 1)) fun sv42 => fX10_init_65 o sv42 vi39 vl40 (cs + 1) (ss + 60) else none else none
theorem tX10_init_57 {G : GT} {Γ : CT} {o : Nat} {sv' : SV} {vi' : VI} {vl' : VL} (B : Base G Γ mX10_init 1 34 12759) (E : Ends G Γ 34 12759 (QV sv' vi' vl')) : ∀ (sv : SV) (vi : VI) (vl : VL) (cs : Nat) (ss : Nat), fX10_init_57 o sv vi vl cs ss = some (sv', vi', vl') → J G Γ cs ss 57 [(0, .ref (G.1 + o))] [] sv vi vl := by
  intro sv vi vl cs ss h
  unfold fX10_init_57 at h
  refine j_aload_n B dX10_init_57 rfl 0 rfl ?_
  refine j_bipush B dX10_init_58 (v := 60) (by decide) ?_
  obtain ⟨b37, h⟩ := h_if h
  refine j_newa (N := 60) B (Or.inl ⟨rfl, rfl⟩) wac_11 (by decide) (by decide) (by decide) b37.1 b37.2 dX10_init_60 ?_
  obtain ⟨sv38, esv38, h⟩ := h_let h
  rw [← esv38]
  obtain ⟨vi39, evi39, h⟩ := h_let h
  rw [← evi39]
  obtain ⟨vl40, evl40, h⟩ := h_let h
  rw [← evl40]
  obtain ⟨b41, h⟩ := h_ob h
  refine pf_RX10_24 B rfl b41 rfl dX10_init_62 ?_
  obtain ⟨sv42, esv42, h⟩ := h_let h
  rw [← esv42]
  refine j_locals [0] rfl ?_
  exact tX10_init_65 B E  (sv42) (vi39) (vl40) ((cs + 1)) ((ss + 60))  h
def fX10_init_50 (o : Nat) (sv : SV) (vi : VI) (vl : VL) (cs : Nat) (ss : Nat) : Option (SV × VI × VL) := if cs + 1 ≤ 34 ∧ ss + 5 ≤ 12759 then optL (j_svn sv 11 5) fun sv32 => optL (j_z0 vi sv.1 0) fun vi33 => optL (j_z0 vl sv.1 0) fun vl34 => if obB sv32 o 10 = true then optL (j_svr sv32 o 6 (sv.1 + 1)) fun sv36 => fX10_init_57 o sv36 vi33 vl34 (cs + 1) (ss + 5) else none else none
theorem tX10_init_50 {G : GT} {Γ : CT} {o : Nat} {sv' : SV} {vi' : VI} {vl' : VL} (B : Base G Γ mX10_init 1 34 12759) (E : Ends G Γ 34 12759 (QV sv' vi' vl')) : ∀ (sv : SV) (vi : VI) (vl : VL) (cs : Nat) (ss : Nat), fX10_init_50 o sv vi vl cs ss = some (sv', vi', vl') → J G Γ cs ss 50 [(0, .ref (G.1 + o))] [] sv vi vl := by
  intro sv vi vl cs ss h
  unfold fX10_init_50 at h
  refine j_aload_n B dX10_init_50 rfl 0 rfl ?_
  refine j_iconst B dX10_init_51 (v := 5) (by decide) ?_
  obtain ⟨b31, h⟩ := h_if h
  refine j_newa (N := 5) B (Or.inl ⟨rfl, rfl⟩) wac_11 (by decide) (by decide) (by decide) b31.1 b31.2 dX10_init_52 ?_
  obtain ⟨sv32, esv32, h⟩ := h_let h
  rw [← esv32]
  obtain ⟨vi33, evi33, h⟩ := h_let h
  rw [← evi33]
  obtain ⟨vl34, evl34, h⟩ := h_let h
  rw [← evl34]
  obtain ⟨b35, h⟩ := h_ob h
  refine pf_RX10_21 B rfl b35 rfl dX10_init_54 ?_
  obtain ⟨sv36, esv36, h⟩ := h_let h
  rw [← esv36]
  refine j_locals [0] rfl ?_
  exact tX10_init_57 B E  (sv36) (vi33) (vl34) ((cs + 1)) ((ss + 5))  h
def fX10_init_18 (o : Nat) (sv : SV) (vi : VI) (vl : VL) (cs : Nat) (ss : Nat) : Option (SV × VI × VL) := if cs + 1 ≤ 34 ∧ ss + 6 ≤ 12759 then optL (j_svn sv 11 6) fun sv14 => optL (j_z0 vi sv.1 0) fun vi15 => optL (j_z0 vl sv.1 0) fun vl16 => if arB sv14 sv.1 11 6 = true then if inb 0 6 = true then if arB sv14 sv.1 11 6 = true then if inb 1 6 = true then if arB sv14 sv.1 11 6 = true then if inb 2 6 = true then if arB sv14 sv.1 11 6 = true then if inb 3 6 = true then if arB sv14 sv.1 11 6 = true then if inb 4 6 = true then if arB sv14 sv.1 11 6 = true then if inb 5 6 = true then if obB sv14 o 10 = true then optL (j_svr sv14 o 4 (sv.1 + 1)) fun sv30 => fX10_init_50 o sv30 (j_up (j_up (j_up (j_up (j_up (j_up vi15 sv.1 (0 : Int32).toNatClampNeg 5) sv.1 (1 : Int32).toNatClampNeg 5) sv.1 (2 : Int32).toNatClampNeg 5) sv.1 (3 : Int32).toNatClampNeg 5) sv.1 (4 : Int32).toNatClampNeg 5) sv.1 (5 : Int32).toNatClampNeg 5) vl16 (cs + 1) (ss + 6) else none else none else none else none else none else none else none else none else none else none else none else none else none else none
theorem tX10_init_18 {G : GT} {Γ : CT} {o : Nat} {sv' : SV} {vi' : VI} {vl' : VL} (B : Base G Γ mX10_init 1 34 12759) (E : Ends G Γ 34 12759 (QV sv' vi' vl')) : ∀ (sv : SV) (vi : VI) (vl : VL) (cs : Nat) (ss : Nat), fX10_init_18 o sv vi vl cs ss = some (sv', vi', vl') → J G Γ cs ss 18 [(0, .ref (G.1 + o))] [] sv vi vl := by
  intro sv vi vl cs ss h
  unfold fX10_init_18 at h
  refine j_aload_n B dX10_init_18 rfl 0 rfl ?_
  refine j_bipush B dX10_init_19 (v := 6) (by decide) ?_
  obtain ⟨b13, h⟩ := h_if h
  refine j_newa (N := 6) B (Or.inl ⟨rfl, rfl⟩) wac_11 (by decide) (by decide) (by decide) b13.1 b13.2 dX10_init_21 ?_
  obtain ⟨sv14, esv14, h⟩ := h_let h
  rw [← esv14]
  obtain ⟨vi15, evi15, h⟩ := h_let h
  rw [← evi15]
  obtain ⟨vl16, evl16, h⟩ := h_let h
  rw [← evl16]
  refine j_dup B dX10_init_23 rfl ?_
  refine j_iconst B dX10_init_24 (v := 0) (by decide) ?_
  refine j_iconst B dX10_init_25 (v := 5) (by decide) ?_
  obtain ⟨b17, h⟩ := h_ar h
  obtain ⟨b18, h⟩ := h_inb h
  refine j_iast B b17 b18 dX10_init_26 ?_
  refine j_dup B dX10_init_27 rfl ?_
  refine j_iconst B dX10_init_28 (v := 1) (by decide) ?_
  refine j_iconst B dX10_init_29 (v := 5) (by decide) ?_
  obtain ⟨b19, h⟩ := h_ar h
  obtain ⟨b20, h⟩ := h_inb h
  refine j_iast B b19 b20 dX10_init_30 ?_
  refine j_dup B dX10_init_31 rfl ?_
  refine j_iconst B dX10_init_32 (v := 2) (by decide) ?_
  refine j_iconst B dX10_init_33 (v := 5) (by decide) ?_
  obtain ⟨b21, h⟩ := h_ar h
  obtain ⟨b22, h⟩ := h_inb h
  refine j_iast B b21 b22 dX10_init_34 ?_
  refine j_dup B dX10_init_35 rfl ?_
  refine j_iconst B dX10_init_36 (v := 3) (by decide) ?_
  refine j_iconst B dX10_init_37 (v := 5) (by decide) ?_
  obtain ⟨b23, h⟩ := h_ar h
  obtain ⟨b24, h⟩ := h_inb h
  refine j_iast B b23 b24 dX10_init_38 ?_
  refine j_dup B dX10_init_39 rfl ?_
  refine j_iconst B dX10_init_40 (v := 4) (by decide) ?_
  refine j_iconst B dX10_init_41 (v := 5) (by decide) ?_
  obtain ⟨b25, h⟩ := h_ar h
  obtain ⟨b26, h⟩ := h_inb h
  refine j_iast B b25 b26 dX10_init_42 ?_
  refine j_dup B dX10_init_43 rfl ?_
  refine j_iconst B dX10_init_44 (v := 5) (by decide) ?_
  refine j_iconst B dX10_init_45 (v := 5) (by decide) ?_
  obtain ⟨b27, h⟩ := h_ar h
  obtain ⟨b28, h⟩ := h_inb h
  refine j_iast B b27 b28 dX10_init_46 ?_
  obtain ⟨b29, h⟩ := h_ob h
  refine pf_RX10_18 B rfl b29 rfl dX10_init_47 ?_
  obtain ⟨sv30, esv30, h⟩ := h_let h
  rw [← esv30]
  refine j_locals [0] rfl ?_
  exact tX10_init_50 B E  (sv30) ((j_up (j_up (j_up (j_up (j_up (j_up vi15 sv.1 (0 : Int32).toNatClampNeg 5) sv.1 (1 : Int32).toNatClampNeg 5) sv.1 (2 : Int32).toNatClampNeg 5) sv.1 (3 : Int32).toNatClampNeg 5) sv.1 (4 : Int32).toNatClampNeg 5) sv.1 (5 : Int32).toNatClampNeg 5)) (vl16) ((cs + 1)) ((ss + 6))  h
def fX10_init_11 (o : Nat) (sv : SV) (vi : VI) (vl : VL) (cs : Nat) (ss : Nat) : Option (SV × VI × VL) := if cs + 1 ≤ 34 ∧ ss + 5 ≤ 12759 then optL (j_svn sv 11 5) fun sv8 => optL (j_z0 vi sv.1 0) fun vi9 => optL (j_z0 vl sv.1 0) fun vl10 => if obB sv8 o 10 = true then optL (j_svr sv8 o 3 (sv.1 + 1)) fun sv12 => fX10_init_18 o sv12 vi9 vl10 (cs + 1) (ss + 5) else none else none
theorem tX10_init_11 {G : GT} {Γ : CT} {o : Nat} {sv' : SV} {vi' : VI} {vl' : VL} (B : Base G Γ mX10_init 1 34 12759) (E : Ends G Γ 34 12759 (QV sv' vi' vl')) : ∀ (sv : SV) (vi : VI) (vl : VL) (cs : Nat) (ss : Nat), fX10_init_11 o sv vi vl cs ss = some (sv', vi', vl') → J G Γ cs ss 11 [(0, .ref (G.1 + o))] [] sv vi vl := by
  intro sv vi vl cs ss h
  unfold fX10_init_11 at h
  refine j_aload_n B dX10_init_11 rfl 0 rfl ?_
  refine j_iconst B dX10_init_12 (v := 5) (by decide) ?_
  obtain ⟨b7, h⟩ := h_if h
  refine j_newa (N := 5) B (Or.inl ⟨rfl, rfl⟩) wac_11 (by decide) (by decide) (by decide) b7.1 b7.2 dX10_init_13 ?_
  obtain ⟨sv8, esv8, h⟩ := h_let h
  rw [← esv8]
  obtain ⟨vi9, evi9, h⟩ := h_let h
  rw [← evi9]
  obtain ⟨vl10, evl10, h⟩ := h_let h
  rw [← evl10]
  obtain ⟨b11, h⟩ := h_ob h
  refine pf_RX10_15 B rfl b11 rfl dX10_init_15 ?_
  obtain ⟨sv12, esv12, h⟩ := h_let h
  rw [← esv12]
  refine j_locals [0] rfl ?_
  exact tX10_init_18 B E  (sv12) (vi9) (vl10) ((cs + 1)) ((ss + 5))  h
def fX10_init (o : Nat) (sv0 : SV) (vi0 : VI) (vl0 : VL) : Option (SV × VI × VL) := if 0 + 1 ≤ 34 ∧ 0 + 5 ≤ 12759 then optL (j_svn sv0 11 5) fun sv2 => optL (j_z0 vi0 sv0.1 0) fun vi3 => optL (j_z0 vl0 sv0.1 0) fun vl4 => if obB sv2 o 10 = true then optL (j_svr sv2 o 2 (sv0.1 + 1)) fun sv6 => fX10_init_11 o sv6 vi3 vl4 (0 + 1) (0 + 5) else none else none
theorem tX10_init {G : GT} {sv0 : SV} {vi0 : VI} {vl0 : VL} {o : Nat} {sv' : SV} {vi' : VI} {vl' : VL} (h : fX10_init o sv0 vi0 vl0 = some (sv', vi', vl')) : Call G mX10_init 1 34 12759 [.ref (G.1 + o)] sv0 vi0 vl0 (QV sv' vi' vl') := by
  refine j_mk (by decide +kernel) (Nat.le_of_ble_eq_true rfl) (fun Γ B E => ?_)
  show J G Γ 0 0 0 [(0, .ref (G.1 + o))] [] sv0 vi0 vl0
  unfold fX10_init at h
  refine j_aload_n B dX10_init_0 rfl 0 rfl ?_
  refine j_objInit B wl_RX10_3 w_oi w_oc (by decide) dX10_init_1 ?_
  refine j_aload_n B dX10_init_4 rfl 0 rfl ?_
  refine j_iconst B dX10_init_5 (v := 5) (by decide) ?_
  obtain ⟨b1, h⟩ := h_if h
  refine j_newa (N := 5) B (Or.inl ⟨rfl, rfl⟩) wac_11 (by decide) (by decide) (by decide) b1.1 b1.2 dX10_init_6 ?_
  obtain ⟨sv2, esv2, h⟩ := h_let h
  rw [← esv2]
  obtain ⟨vi3, evi3, h⟩ := h_let h
  rw [← evi3]
  obtain ⟨vl4, evl4, h⟩ := h_let h
  rw [← evl4]
  obtain ⟨b5, h⟩ := h_ob h
  refine pf_RX10_9 B rfl b5 rfl dX10_init_8 ?_
  obtain ⟨sv6, esv6, h⟩ := h_let h
  rw [← esv6]
  refine j_locals [0] rfl ?_
  exact tX10_init_11 B E  (sv6) (vi3) (vl4) ((0 + 1)) ((0 + 5))  h
def fX9_sill (x1 : Int32) (x2 : Int32) (sv0 : SV) (vi0 : VI) (vl0 : VL) : Option (Int32 × SV × VI × VL) := if 0 ≤ 5 ∧ 0 ≤ 812 then (fX9_isWithin x1 9).bind fun r1 => if r1 = true then if 0 ≤ 5 ∧ 0 ≤ 812 then (fX9_isWithin x2 9).bind fun r4 => if r4 = true then if obB sv0 0 9 = true then if (vi0 0 1) < 5 then if obB sv0 0 9 = true then if 0 < sv0.2.2.2 0 0 then if obB sv0 0 9 = true then if 0 + 1 ≤ 5 ∧ 0 + 5 ≤ 812 then optL (j_svn sv0 7 5) fun sv11 => optL (j_z0 vi0 sv0.1 0) fun vi12 => optL (j_z0 vl0 sv0.1 0) fun vl13 => if obB sv11 0 9 = true then if 0 < sv11.2.2.2 0 4 then if (0 + 1) + 4 ≤ 5 ∧ (0 + 5) + 807 ≤ 812 then (fX7_init sv0.1 (sv11.2.2.2 0 4 - 1) x1 x2 sv11 vi12 vl13).bind fun r16 => if arB r16.1 (sv0.2.2.2 0 0 - 1) 23 5 = true then if inb (vi0 0 1) 5 = true then if obB r16.1 sv0.1 7 = true then optL (j_svr r16.1 (sv0.2.2.2 0 0 - 1) (vi0 0 1).toNatClampNeg (sv0.1 + 1)) fun sv24 => if obB sv24 0 9 = true then if obB sv24 0 9 = true then if obB sv24 0 9 = true then if ((0 + 1) + 4) ≤ 5 ∧ ((0 + 5) + 807) ≤ 812 then some ((((j_up r16.2.1 0 1 ((r16.2.1 0 1) + 1)) 0 1) - 1), sv24, (j_up r16.2.1 0 1 ((r16.2.1 0 1) + 1)), r16.2.2) else none else none else none else none else none else none else none else none else none else none else none else none else none else none else if 0 ≤ 5 ∧ 0 ≤ 812 then some ((-3), sv0, vi0, vl0) else none else none else if 0 ≤ 5 ∧ 0 ≤ 812 then some ((-1), sv0, vi0, vl0) else none else none else if 0 ≤ 5 ∧ 0 ≤ 812 then some ((-1), sv0, vi0, vl0) else none else none
theorem tX9_sill {G : GT} {sv0 : SV} {vi0 : VI} {vl0 : VL} {x1 : Int32} {x2 : Int32} {r : Int32} {sv' : SV} {vi' : VI} {vl' : VL} (h : fX9_sill x1 x2 sv0 vi0 vl0 = some (r, sv', vi', vl')) : Call G mX9_sill 3 5 812 [.ref (G.1 + 0), .int x1, .int x2] sv0 vi0 vl0 (QI r sv' vi' vl') := by
  refine j_mk (by decide +kernel) (Nat.le_of_ble_eq_true rfl) (fun Γ B E => ?_)
  show J G Γ 0 0 0 [(0, .ref (G.1 + 0)), (1, .int x1), (2, .int x2)] [] sv0 vi0 vl0
  unfold fX9_sill at h
  refine j_iload_n B dX9_sill_0 rfl 1 rfl ?_
  refine j_bipush B dX9_sill_1 (v := 9) (by decide) ?_
  obtain ⟨b2, h⟩ := h_if h
  obtain ⟨r1, hr1, h⟩ := h_bind h
  refine j_cSI (rest := []) B (tX9_isWithin hr1) jt_RX9_90 wst_X9_isWithin rfl (by decide) b2.1 b2.2 rfl (Nat.le_of_ble_eq_true rfl) dX9_sill_3 ?_
  refine j_if_eq (tgt := 18) B dX9_sill_6 (by decide) (fun c => ?_) (fun c => ?_)
  · replace h := h_neg (b2i_0 c) h
    refine j_iconst B dX9_sill_18 (v := (-1)) (by decide) ?_
    obtain ⟨b3, h⟩ := h_if h
    have e1 := Option.some.inj h
    obtain ⟨e1, e2⟩ := Prod.mk.inj e1
    obtain ⟨e2, e3⟩ := Prod.mk.inj e2
    obtain ⟨e3, e4⟩ := Prod.mk.inj e3
    subst e1
    subst e2
    subst e3
    subst e4
    exact j_iret B E rfl dX9_sill_19 b3.1 b3.2 ⟨rfl, rfl, rfl, rfl⟩
  · replace h := h_pos (b2i_1 c) h
    refine j_iload_n B dX9_sill_9 rfl 2 rfl ?_
    refine j_bipush B dX9_sill_10 (v := 9) (by decide) ?_
    obtain ⟨b5, h⟩ := h_if h
    obtain ⟨r4, hr4, h⟩ := h_bind h
    refine j_cSI (rest := []) B (tX9_isWithin hr4) jt_RX9_90 wst_X9_isWithin rfl (by decide) b5.1 b5.2 rfl (Nat.le_of_ble_eq_true rfl) dX9_sill_12 ?_
    refine j_if_ne (tgt := 20) B dX9_sill_15 (by decide) (fun c => ?_) (fun c => ?_)
    · replace h := h_pos (b2i_1 c) h
      refine j_aload_n B dX9_sill_20 rfl 0 rfl ?_
      obtain ⟨b6, h⟩ := h_ob h
      refine gf_RX9_94 B rfl b6 dX9_sill_21 ?_
      refine j_iconst B dX9_sill_24 (v := 5) (by decide) ?_
      refine j_icmp_lt (tgt := 31) B dX9_sill_25 (by decide) (fun c => ?_) (fun c => ?_)
      · replace h := h_pos c h
        refine j_aload_n B dX9_sill_31 rfl 0 rfl ?_
        obtain ⟨b7, h⟩ := h_ob h
        obtain ⟨b8, h⟩ := h_if h
        refine gf_RX9_11 B rfl b7 (nz_eq b8) dX9_sill_32 ?_
        refine j_aload_n B dX9_sill_35 rfl 0 rfl ?_
        obtain ⟨b9, h⟩ := h_ob h
        refine gf_RX9_94 B rfl b9 dX9_sill_36 ?_
        obtain ⟨b10, h⟩ := h_if h
        refine j_new B cls7 hdef7 wcl_RX9_9 wins_RX7 wini_RX7 b10.1 b10.2 dX9_sill_39 ?_
        obtain ⟨sv11, esv11, h⟩ := h_let h
        rw [← esv11]
        obtain ⟨vi12, evi12, h⟩ := h_let h
        rw [← evi12]
        obtain ⟨vl13, evl13, h⟩ := h_let h
        rw [← evl13]
        refine j_dup B dX9_sill_42 rfl ?_
        refine j_aload_n B dX9_sill_43 rfl 0 rfl ?_
        obtain ⟨b14, h⟩ := h_ob h
        obtain ⟨b15, h⟩ := h_if h
        refine gf_RX9_29 B rfl b14 (nz_eq b15) dX9_sill_44 ?_
        refine j_iload_n B dX9_sill_47 rfl 1 rfl ?_
        refine j_iload_n B dX9_sill_48 rfl 2 rfl ?_
        obtain ⟨b17, h⟩ := h_if h
        obtain ⟨r16, hr16, h⟩ := h_bind h
        refine j_cI (rest := [.ref (G.1 + sv0.1), .int (vi0 0 1), .ref (G.1 + (sv0.2.2.2 0 0 - 1))]) B (tX7_init hr16) ⟨rfl, rfl⟩ jt_RX9_98 wi_X7_init rfl (by decide) b17.1 b17.2 rfl (Nat.le_of_ble_eq_true rfl) dX9_sill_49 ?_
        obtain ⟨b21, h⟩ := h_ar h
        obtain ⟨b22, h⟩ := h_inb h
        obtain ⟨b23, h⟩ := h_ob h
        refine j_aast B b21 (Or.inr (Or.inr ⟨rfl, rfl⟩)) b23 b22 dX9_sill_52 ?_
        obtain ⟨sv24, esv24, h⟩ := h_let h
        rw [← esv24]
        refine j_aload_n B dX9_sill_53 rfl 0 rfl ?_
        refine j_dup B dX9_sill_54 rfl ?_
        obtain ⟨b25, h⟩ := h_ob h
        refine gf_RX9_94 B rfl b25 dX9_sill_55 ?_
        refine j_iconst B dX9_sill_58 (v := 1) (by decide) ?_
        refine j_iadd B dX9_sill_59 ?_
        obtain ⟨b26, h⟩ := h_ob h
        refine pf_RX9_94 B rfl b26 dX9_sill_60 ?_
        refine j_aload_n B dX9_sill_63 rfl 0 rfl ?_
        obtain ⟨b27, h⟩ := h_ob h
        refine gf_RX9_94 B rfl b27 dX9_sill_64 ?_
        refine j_iconst B dX9_sill_67 (v := 1) (by decide) ?_
        refine j_isub B dX9_sill_68 ?_
        obtain ⟨b28, h⟩ := h_if h
        have e1 := Option.some.inj h
        obtain ⟨e1, e2⟩ := Prod.mk.inj e1
        obtain ⟨e2, e3⟩ := Prod.mk.inj e2
        obtain ⟨e3, e4⟩ := Prod.mk.inj e3
        subst e1
        subst e2
        subst e3
        subst e4
        exact j_iret B E rfl dX9_sill_69 b28.1 b28.2 ⟨rfl, rfl, rfl, rfl⟩
      · replace h := h_neg c h
        refine j_bipush B dX9_sill_28 (v := (-3)) (by decide) ?_
        obtain ⟨b29, h⟩ := h_if h
        have e1 := Option.some.inj h
        obtain ⟨e1, e2⟩ := Prod.mk.inj e1
        obtain ⟨e2, e3⟩ := Prod.mk.inj e2
        obtain ⟨e3, e4⟩ := Prod.mk.inj e3
        subst e1
        subst e2
        subst e3
        subst e4
        exact j_iret B E rfl dX9_sill_30 b29.1 b29.2 ⟨rfl, rfl, rfl, rfl⟩
    · replace h := h_neg (b2i_0 c) h
      refine j_iconst B dX9_sill_18 (v := (-1)) (by decide) ?_
      obtain ⟨b30, h⟩ := h_if h
      have e1 := Option.some.inj h
      obtain ⟨e1, e2⟩ := Prod.mk.inj e1
      obtain ⟨e2, e3⟩ := Prod.mk.inj e2
      obtain ⟨e3, e4⟩ := Prod.mk.inj e3
      subst e1
      subst e2
      subst e3
      subst e4
      exact j_iret B E rfl dX9_sill_19 b30.1 b30.2 ⟨rfl, rfl, rfl, rfl⟩
def fX9_sills_57  : Nat → Int32 → Int32 → Nat → Int32 → SV → VI → VL → Nat → Nat → Option (Int32 × SV × VI × VL)
  | 0, _, _, _, _, _, _, _, _, _ => none
  | F + 1, x2, x3, x4, x5, sv, vi, vl, cs, ss => if x3 ≤ x5 then if cs ≤ 25 ∧ ss ≤ 4060 then some (x5, sv, vi, vl) else none else if obB sv x4 6 = true then if ((vi x4 3) - x2) ≤ ((2 * x5) + 1) then if cs ≤ 25 ∧ ss ≤ 4060 then some (x5, sv, vi, vl) else none else if obB sv x4 6 = true then if 0 < sv.2.2.2 x4 4 then if arB sv (sv.2.2.2 x4 4 - 1) 20 60 = true then if inb (x2 + (2 * x5)) 60 = true then if obB sv x4 6 = true then if 0 < sv.2.2.2 x4 4 then if arB sv (sv.2.2.2 x4 4 - 1) 20 60 = true then if inb ((x2 + (2 * x5)) + 1) 60 = true then if obB sv 0 9 = true then if cs + 5 ≤ 25 ∧ ss + 812 ≤ 4060 then (fX9_sill (vl (sv.2.2.2 x4 4 - 1) (x2 + (2 * x5)).toNatClampNeg).toInt32 (vl (sv.2.2.2 x4 4 - 1) ((x2 + (2 * x5)) + 1).toNatClampNeg).toInt32 sv vi vl).bind fun r25 => if 0 ≤ r25.1 then fX9_sills_57  F x2 x3 x4 (x5 + 1) r25.2.1 r25.2.2.1 r25.2.2.2 (cs + 5) (ss + 812) else if (cs + 5) ≤ 25 ∧ (ss + 812) ≤ 4060 then some (x5, r25.2.1, r25.2.2.1, r25.2.2.2) else none else none else none else none else none else none else none else none else none else none else none else none
theorem tX9_sills_57 {G : GT} {Γ : CT} {r : Int32} {sv' : SV} {vi' : VI} {vl' : VL} (B : Base G Γ mX9_sills 4 25 4060) (E : Ends G Γ 25 4060 (QI r sv' vi' vl')) : ∀ (F : Nat) (x2 : Int32) (x3 : Int32) (x4 : Nat) (x5 : Int32) (sv : SV) (vi : VI) (vl : VL) (cs : Nat) (ss : Nat), fX9_sills_57  F x2 x3 x4 x5 sv vi vl cs ss = some (r, sv', vi', vl') → J G Γ cs ss 57 [(0, .ref (G.1 + 0)), (2, .int x2), (3, .int x3), (4, .ref (G.1 + x4)), (5, .int x5)] [] sv vi vl := by
  intro F
  induction F with
  | zero =>
    intro x2 x3 x4 x5 sv vi vl cs ss h
    cases (show (none : Option (Int32 × SV × VI × VL)) = some (r, sv', vi', vl') from h)
  | succ F ih =>
    intro x2 x3 x4 x5 sv vi vl cs ss h
    rw [fX9_sills_57] at h
    refine j_iload B dX9_sills_57 4 rfl ?_
    refine j_iload_n B dX9_sills_59 rfl 2 rfl ?_
    refine j_icmp_ge (tgt := 123) B dX9_sills_60 (by decide) (fun c => ?_) (fun c => ?_)
    · replace h := h_pos c h
      refine j_iload B dX9_sills_123 4 rfl ?_
      obtain ⟨b14, h⟩ := h_if h
      have e1 := Option.some.inj h
      obtain ⟨e1, e2⟩ := Prod.mk.inj e1
      obtain ⟨e2, e3⟩ := Prod.mk.inj e2
      obtain ⟨e3, e4⟩ := Prod.mk.inj e3
      subst e1
      subst e2
      subst e3
      subst e4
      exact j_iret B E rfl dX9_sills_125 b14.1 b14.2 ⟨rfl, rfl, rfl, rfl⟩
    · replace h := h_neg c h
      refine j_aload B dX9_sills_63 3 rfl ?_
      obtain ⟨b15, h⟩ := h_ob h
      refine gf_RX9_112 B rfl b15 dX9_sills_65 ?_
      refine j_iload_n B dX9_sills_68 rfl 1 rfl ?_
      refine j_isub B dX9_sills_69 ?_
      refine j_iconst B dX9_sills_70 (v := 2) (by decide) ?_
      refine j_iload B dX9_sills_71 4 rfl ?_
      refine j_imul B dX9_sills_73 ?_
      refine j_iconst B dX9_sills_74 (v := 1) (by decide) ?_
      refine j_iadd B dX9_sills_75 ?_
      refine j_icmp_le (tgt := 123) B dX9_sills_76 (by decide) (fun c => ?_) (fun c => ?_)
      · replace h := h_pos c h
        refine j_iload B dX9_sills_123 4 rfl ?_
        obtain ⟨b16, h⟩ := h_if h
        have e1 := Option.some.inj h
        obtain ⟨e1, e2⟩ := Prod.mk.inj e1
        obtain ⟨e2, e3⟩ := Prod.mk.inj e2
        obtain ⟨e3, e4⟩ := Prod.mk.inj e3
        subst e1
        subst e2
        subst e3
        subst e4
        exact j_iret B E rfl dX9_sills_125 b16.1 b16.2 ⟨rfl, rfl, rfl, rfl⟩
      · replace h := h_neg c h
        refine j_iload_n B dX9_sills_79 rfl 1 rfl ?_
        refine j_iconst B dX9_sills_80 (v := 2) (by decide) ?_
        refine j_iload B dX9_sills_81 4 rfl ?_
        refine j_imul B dX9_sills_83 ?_
        refine j_iadd B dX9_sills_84 ?_
        refine j_istore (L' := [(6, .int (x2 + (2 * x5))), (0, .ref (G.1 + 0)), (2, .int x2), (3, .int x3), (4, .ref (G.1 + x4)), (5, .int x5)]) B dX9_sills_85 (by decide) rfl ?_
        refine j_aload_n B dX9_sills_87 rfl 1 rfl ?_
        refine j_aload B dX9_sills_88 4 rfl ?_
        obtain ⟨b17, h⟩ := h_ob h
        obtain ⟨b18, h⟩ := h_if h
        refine gf_RX9_115 B rfl b17 (nz_eq b18) dX9_sills_90 ?_
        refine j_iload B dX9_sills_93 0 rfl ?_
        obtain ⟨b19, h⟩ := h_ar h
        obtain ⟨b20, h⟩ := h_inb h
        refine j_lald B b19 b20 dX9_sills_95 ?_
        refine j_l2i B dX9_sills_96 ?_
        refine j_aload B dX9_sills_97 4 rfl ?_
        obtain ⟨b21, h⟩ := h_ob h
        obtain ⟨b22, h⟩ := h_if h
        refine gf_RX9_115 B rfl b21 (nz_eq b22) dX9_sills_99 ?_
        refine j_iload B dX9_sills_102 0 rfl ?_
        refine j_iconst B dX9_sills_104 (v := 1) (by decide) ?_
        refine j_iadd B dX9_sills_105 ?_
        obtain ⟨b23, h⟩ := h_ar h
        obtain ⟨b24, h⟩ := h_inb h
        refine j_lald B b23 b24 dX9_sills_106 ?_
        refine j_l2i B dX9_sills_107 ?_
        obtain ⟨b27, h⟩ := h_ob h
        obtain ⟨b26, h⟩ := h_if h
        obtain ⟨r25, hr25, h⟩ := h_bind h
        refine j_cWI (rest := []) B (tX9_sill hr25) cls9 b27 jt_RX9_119 wi_X9_sill ws_X9_sill rfl (by decide) b26.1 b26.2 rfl (Nat.le_of_ble_eq_true rfl) dX9_sills_108 ?_
        refine j_if_ge (tgt := 117) B dX9_sills_111 (by decide) (fun c => ?_) (fun c => ?_)
        · replace h := h_pos c h
          refine j_iinc (v := (x5 + 1)) (L' := [(5, .int (x5 + 1)), (6, .int (x2 + (2 * x5))), (0, .ref (G.1 + 0)), (2, .int x2), (3, .int x3), (4, .ref (G.1 + x4))]) B dX9_sills_117 5 rfl rfl (by decide) rfl ?_
          refine j_goto (tgt := 57) B dX9_sills_120 (by decide) ?_
          refine j_locals [2, 3, 4, 5, 0] rfl ?_
          exact ih (x2) (x3) (x4) ((x5 + 1)) (r25.2.1) (r25.2.2.1) (r25.2.2.2) ((cs + 5)) ((ss + 812))  h
        · replace h := h_neg c h
          refine j_goto (tgt := 123) B dX9_sills_114 (by decide) ?_
          refine j_iload B dX9_sills_123 5 rfl ?_
          obtain ⟨b31, h⟩ := h_if h
          have e1 := Option.some.inj h
          obtain ⟨e1, e2⟩ := Prod.mk.inj e1
          obtain ⟨e2, e3⟩ := Prod.mk.inj e2
          obtain ⟨e3, e4⟩ := Prod.mk.inj e3
          subst e1
          subst e2
          subst e3
          subst e4
          exact j_iret B E rfl dX9_sills_125 b31.1 b31.2 ⟨rfl, rfl, rfl, rfl⟩
def fX9_sills (x1 : Int32) (x2 : Int32) (x3 : Int32) (sv0 : SV) (vi0 : VI) (vl0 : VL) : Option (Int32 × SV × VI × VL) := if 0 ≤ 25 ∧ 0 ≤ 4060 then (fX9_isShelf x1).bind fun r1 => if r1 = true then if x3 < 1 then if 0 ≤ 25 ∧ 0 ≤ 4060 then some ((-1), sv0, vi0, vl0) else none else if x3 ≤ 5 then if obB sv0 0 9 = true then if 0 < sv0.2.2.2 0 13 then if arB sv0 (sv0.2.2.2 0 13 - 1) 22 6 = true then if inb x1 6 = true then if 0 < sv0.2.2.2 (sv0.2.2.2 0 13 - 1) x1.toNatClampNeg then if obB sv0 (sv0.2.2.2 (sv0.2.2.2 0 13 - 1) x1.toNatClampNeg - 1) 6 = true then if (vi0 (sv0.2.2.2 (sv0.2.2.2 0 13 - 1) x1.toNatClampNeg - 1) 0) = 0 then if 0 ≤ 25 ∧ 0 ≤ 4060 then some (0, sv0, vi0, vl0) else none else if shB sv0 (sv0.2.2.2 (sv0.2.2.2 0 13 - 1) x1.toNatClampNeg - 1) = true then if 0 ≤ 25 ∧ 0 ≤ 4060 then (fX6_isBytes (sv0.2.2.2 (sv0.2.2.2 0 13 - 1) x1.toNatClampNeg - 1) vi0).bind fun r11 => if r11 = true then if 0 ≤ x2 then fX9_sills_57  FU x2 x3 (sv0.2.2.2 (sv0.2.2.2 0 13 - 1) x1.toNatClampNeg - 1) 0 sv0 vi0 vl0 0 0 else if 0 ≤ 25 ∧ 0 ≤ 4060 then some (0, sv0, vi0, vl0) else none else if 0 ≤ 25 ∧ 0 ≤ 4060 then some ((-12), sv0, vi0, vl0) else none else none else none else none else none else none else none else none else none else if 0 ≤ 25 ∧ 0 ≤ 4060 then some ((-1), sv0, vi0, vl0) else none else if 0 ≤ 25 ∧ 0 ≤ 4060 then some ((-1), sv0, vi0, vl0) else none else none
theorem tX9_sills {G : GT} {sv0 : SV} {vi0 : VI} {vl0 : VL} {x1 : Int32} {x2 : Int32} {x3 : Int32} {r : Int32} {sv' : SV} {vi' : VI} {vl' : VL} (h : fX9_sills x1 x2 x3 sv0 vi0 vl0 = some (r, sv', vi', vl')) : Call G mX9_sills 4 25 4060 [.ref (G.1 + 0), .int x1, .int x2, .int x3] sv0 vi0 vl0 (QI r sv' vi' vl') := by
  refine j_mk (by decide +kernel) (Nat.le_of_ble_eq_true rfl) (fun Γ B E => ?_)
  show J G Γ 0 0 0 [(0, .ref (G.1 + 0)), (1, .int x1), (2, .int x2), (3, .int x3)] [] sv0 vi0 vl0
  unfold fX9_sills at h
  refine j_iload_n B dX9_sills_0 rfl 1 rfl ?_
  obtain ⟨b2, h⟩ := h_if h
  obtain ⟨r1, hr1, h⟩ := h_bind h
  refine j_cSI (rest := []) B (tX9_isShelf hr1) jt_RX9_101 wst_X9_isShelf rfl (by decide) b2.1 b2.2 rfl (Nat.le_of_ble_eq_true rfl) dX9_sills_1 ?_
  refine j_if_eq (tgt := 17) B dX9_sills_4 (by decide) (fun c => ?_) (fun c => ?_)
  · replace h := h_neg (b2i_0 c) h
    refine j_iconst B dX9_sills_17 (v := (-1)) (by decide) ?_
    obtain ⟨b3, h⟩ := h_if h
    have e1 := Option.some.inj h
    obtain ⟨e1, e2⟩ := Prod.mk.inj e1
    obtain ⟨e2, e3⟩ := Prod.mk.inj e2
    obtain ⟨e3, e4⟩ := Prod.mk.inj e3
    subst e1
    subst e2
    subst e3
    subst e4
    exact j_iret B E rfl dX9_sills_18 b3.1 b3.2 ⟨rfl, rfl, rfl, rfl⟩
  · replace h := h_pos (b2i_1 c) h
    refine j_iload_n B dX9_sills_7 rfl 3 rfl ?_
    refine j_iconst B dX9_sills_8 (v := 1) (by decide) ?_
    refine j_icmp_lt (tgt := 17) B dX9_sills_9 (by decide) (fun c => ?_) (fun c => ?_)
    · replace h := h_pos c h
      refine j_iconst B dX9_sills_17 (v := (-1)) (by decide) ?_
      obtain ⟨b4, h⟩ := h_if h
      have e1 := Option.some.inj h
      obtain ⟨e1, e2⟩ := Prod.mk.inj e1
      obtain ⟨e2, e3⟩ := Prod.mk.inj e2
      obtain ⟨e3, e4⟩ := Prod.mk.inj e3
      subst e1
      subst e2
      subst e3
      subst e4
      exact j_iret B E rfl dX9_sills_18 b4.1 b4.2 ⟨rfl, rfl, rfl, rfl⟩
    · replace h := h_neg c h
      refine j_iload_n B dX9_sills_12 rfl 3 rfl ?_
      refine j_iconst B dX9_sills_13 (v := 5) (by decide) ?_
      refine j_icmp_le (tgt := 19) B dX9_sills_14 (by decide) (fun c => ?_) (fun c => ?_)
      · replace h := h_pos c h
        refine j_aload_n B dX9_sills_19 rfl 0 rfl ?_
        obtain ⟨b5, h⟩ := h_ob h
        obtain ⟨b6, h⟩ := h_if h
        refine gf_RX9_79 B rfl b5 (nz_eq b6) dX9_sills_20 ?_
        refine j_iload_n B dX9_sills_23 rfl 1 rfl ?_
        obtain ⟨b7, h⟩ := h_ar h
        obtain ⟨b8, h⟩ := h_inb h
        obtain ⟨b9, h⟩ := h_if h
        refine j_aald B b7 (Or.inr (Or.inl rfl)) b8 (nz_eq b9) dX9_sills_24 ?_
        refine j_astore (L' := [(4, .ref (G.1 + (sv0.2.2.2 (sv0.2.2.2 0 13 - 1) x1.toNatClampNeg - 1))), (0, .ref (G.1 + 0)), (1, .int x1), (2, .int x2), (3, .int x3)]) B dX9_sills_25 (by decide) rfl ?_
        refine j_aload B dX9_sills_27 0 rfl ?_
        obtain ⟨b10, h⟩ := h_ob h
        refine gf_RX9_105 B rfl b10 dX9_sills_29 ?_
        refine j_if_ne (tgt := 37) B dX9_sills_32 (by decide) (fun c => ?_) (fun c => ?_)
        · replace h := h_neg c h
          refine j_aload B dX9_sills_37 0 rfl ?_
          obtain ⟨b13, h⟩ := h_sh h
          obtain ⟨b12, h⟩ := h_if h
          obtain ⟨r11, hr11, h⟩ := h_bind h
          refine j_cVI (rest := []) B (tX6_isBytes b13 hr11) cls6 (b13).1 jt_RX9_108 wi_X6_isBytes ws_X6_isBytes rfl (by decide) b12.1 b12.2 rfl (Nat.le_of_ble_eq_true rfl) dX9_sills_39 ?_
          refine j_if_ne (tgt := 48) B dX9_sills_42 (by decide) (fun c => ?_) (fun c => ?_)
          · replace h := h_pos (b2i_1 c) h
            refine j_iload_n B dX9_sills_48 rfl 3 rfl ?_
            refine j_if_ge (tgt := 54) B dX9_sills_49 (by decide) (fun c => ?_) (fun c => ?_)
            · replace h := h_pos c h
              refine j_iconst B dX9_sills_54 (v := 0) (by decide) ?_
              refine j_istore (L' := [(5, .int 0), (4, .ref (G.1 + (sv0.2.2.2 (sv0.2.2.2 0 13 - 1) x1.toNatClampNeg - 1))), (0, .ref (G.1 + 0)), (1, .int x1), (2, .int x2), (3, .int x3)]) B dX9_sills_55 (by decide) rfl ?_
              refine j_locals [2, 4, 5, 1, 0] rfl ?_
              exact tX9_sills_57 B E  FU (x2) (x3) ((sv0.2.2.2 (sv0.2.2.2 0 13 - 1) x1.toNatClampNeg - 1)) (0) (sv0) (vi0) (vl0) (0) (0)  h
            · replace h := h_neg c h
              refine j_iconst B dX9_sills_52 (v := 0) (by decide) ?_
              obtain ⟨b32, h⟩ := h_if h
              have e1 := Option.some.inj h
              obtain ⟨e1, e2⟩ := Prod.mk.inj e1
              obtain ⟨e2, e3⟩ := Prod.mk.inj e2
              obtain ⟨e3, e4⟩ := Prod.mk.inj e3
              subst e1
              subst e2
              subst e3
              subst e4
              exact j_iret B E rfl dX9_sills_53 b32.1 b32.2 ⟨rfl, rfl, rfl, rfl⟩
          · replace h := h_neg (b2i_0 c) h
            refine j_bipush B dX9_sills_45 (v := (-12)) (by decide) ?_
            obtain ⟨b33, h⟩ := h_if h
            have e1 := Option.some.inj h
            obtain ⟨e1, e2⟩ := Prod.mk.inj e1
            obtain ⟨e2, e3⟩ := Prod.mk.inj e2
            obtain ⟨e3, e4⟩ := Prod.mk.inj e3
            subst e1
            subst e2
            subst e3
            subst e4
            exact j_iret B E rfl dX9_sills_47 b33.1 b33.2 ⟨rfl, rfl, rfl, rfl⟩
        · replace h := h_pos c h
          refine j_iconst B dX9_sills_35 (v := 0) (by decide) ?_
          obtain ⟨b34, h⟩ := h_if h
          have e1 := Option.some.inj h
          obtain ⟨e1, e2⟩ := Prod.mk.inj e1
          obtain ⟨e2, e3⟩ := Prod.mk.inj e2
          obtain ⟨e3, e4⟩ := Prod.mk.inj e3
          subst e1
          subst e2
          subst e3
          subst e4
          exact j_iret B E rfl dX9_sills_36 b34.1 b34.2 ⟨rfl, rfl, rfl, rfl⟩
      · replace h := h_neg c h
        refine j_iconst B dX9_sills_17 (v := (-1)) (by decide) ?_
        obtain ⟨b35, h⟩ := h_if h
        have e1 := Option.some.inj h
        obtain ⟨e1, e2⟩ := Prod.mk.inj e1
        obtain ⟨e2, e3⟩ := Prod.mk.inj e2
        obtain ⟨e3, e4⟩ := Prod.mk.inj e3
        subst e1
        subst e2
        subst e3
        subst e4
        exact j_iret B E rfl dX9_sills_18 b35.1 b35.2 ⟨rfl, rfl, rfl, rfl⟩
