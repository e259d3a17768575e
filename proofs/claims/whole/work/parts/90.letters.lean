/-! READING A TEXT: where either stands, the letter there -/
def TS (vc vm : VI) (n : Nat) : Prop := n ≤ 120 ∧ vc 3 1 = nI n ∧ vm 63 16 = nI n ∧ ∀ i, i < n → rng (vc 4 i) 0 255 ∧ vm 74 i = (vc 4 i).toInt8.toInt32
def PS (vc vm : VI) (n p o c s : Nat) : Prop := TS vc vm n ∧ p ≤ n ∧ vc 3 2 = nI p ∧ vc 3 3 = -1 ∧ vc 9 1 = nI c ∧ vm 63 17 = nI p ∧ vm 63 18 = -1 ∧ vm 63 19 = nI o ∧ vm 63 20 = nI s
def BadC (vc : VI) (n f : Nat) : Prop := vc 3 1 = nI n ∧ (∃ c, c ≤ 121 ∧ vc 9 1 = nI c) ∧ (vc 3 3 = nI f ∨ (vc 3 3 = -1 ∧ vc 3 2 = nI f ∧ f < n ∧ 48 ≤ (vc 4 f).toInt ∧ (vc 4 f).toInt ≤ 57))
def BadM (vm : VI) (n f p s : Nat) : Prop := vm 63 16 = nI n ∧ vm 63 17 = nI p ∧ p ≤ n ∧ vm 63 18 = nI f ∧ f ≤ n ∧ vm 63 20 = nI s
def FC0 (vc vc' : VI) : Prop := ∀ a i, ¬ (a = 3 ∧ (i = 2 ∨ i = 3)) → ¬ (a = 9 ∧ i = 1) → a ≠ 10 → vc' a i = vc a i
def FM0 (vm vm' : VI) : Prop := ∀ a i, ¬ (a = 63 ∧ 17 ≤ i ∧ i ≤ 20) → ¬ (a = 75 ∧ 130 ≤ i) → ¬ (a = 76 ∧ 130 ≤ i) → vm' a i = vm a i
def FC (c : Nat) (vc vc' : VI) : Prop := FC0 vc vc' ∧ ∀ i, i < c → vc' 10 i = vc 10 i
def FM (s : Nat) (vm vm' : VI) : Prop := FM0 vm vm' ∧ ∀ i, i < 130 + s → vm' 75 i = vm 75 i ∧ vm' 76 i = vm 76 i
theorem fc0_rfl (v : VI) : FC0 v v := fun _ _ _ _ _ => rfl
theorem fm0_rfl (v : VI) : FM0 v v := fun _ _ _ _ _ => rfl
theorem fc_rfl (c : Nat) (v : VI) : FC c v v := ⟨fc0_rfl v, fun _ _ => rfl⟩
theorem fm_rfl (s : Nat) (v : VI) : FM s v v := ⟨fm0_rfl v, fun _ _ => ⟨rfl, rfl⟩⟩
theorem fc0_tr {a b d : VI} (h : FC0 a b) (g : FC0 b d) : FC0 a d := fun x i q1 q2 q3 => (g x i q1 q2 q3).trans (h x i q1 q2 q3)
theorem fm0_tr {a b d : VI} (h : FM0 a b) (g : FM0 b d) : FM0 a d := fun x i q1 q2 q3 => (g x i q1 q2 q3).trans (h x i q1 q2 q3)
theorem fc_tr {c c' : Nat} {a b d : VI} (h : FC c a b) (g : FC c' b d) (e : c ≤ c') : FC c a d := ⟨fc0_tr h.1 g.1, fun i hi => (g.2 i (by omega)).trans (h.2 i hi)⟩
theorem fm_tr {c c' : Nat} {a b d : VI} (h : FM c a b) (g : FM c' b d) (e : c ≤ c') : FM c a d := ⟨fm0_tr h.1 g.1, fun i hi => ⟨((g.2 i (by omega)).1).trans (h.2 i hi).1, ((g.2 i (by omega)).2).trans (h.2 i hi).2⟩⟩
theorem ts_fr {vc vm vc' vm' : VI} {n : Nat} (h : TS vc vm n) (h1 : FC0 vc vc') (h2 : FM0 vm vm') : TS vc' vm' n := by
  obtain ⟨t1, t2, t3, t4⟩ := h
  refine ⟨t1, (h1 3 1 (by omega) (by omega) (by omega)).trans t2, (h2 63 16 (by omega) (by omega) (by omega)).trans t3, fun i hi => ?_⟩
  rw [h1 4 i (by omega) (by omega) (by omega), h2 74 i (by omega) (by omega) (by omega)]
  exact t4 i hi
/-- the letter there, as either has it -/
def LR (x y : Int32) : Prop := (x = y ∧ -1 ≤ x.toInt ∧ x.toInt ≤ 127) ∨ (128 ≤ x.toInt ∧ y.toInt < 0)
theorem lr_eq {x y : Int32} (h : LR x y) {k : Int32} (h1 : 0 ≤ k.toInt) (h2 : k.toInt ≤ 127) : x = k ↔ y = k := by
  rcases h with ⟨rfl, -, -⟩ | ⟨a, b⟩
  · exact Iff.rfl
  · constructor
    · intro e; rw [e] at a; omega
    · intro e; rw [e] at b; omega
theorem lr_in {x y : Int32} (h : LR x y) : (48 ≤ x.toInt ∧ x.toInt ≤ 57) ↔ (48 ≤ y.toInt ∧ y.toInt ≤ 57) := by
  rcases h with ⟨rfl, -, -⟩ | ⟨a, b⟩
  · exact Iff.rfl
  · omega
theorem byte_lr {x : Int32} (h : rng x 0 255) : LR x x.toInt8.toInt32 := by
  obtain ⟨h1, h2⟩ := h
  by_cases c : x.toInt ≤ 127
  · left
    exact ⟨(i8id (by omega)).symm, by omega, c⟩
  · right
    refine ⟨by omega, ?_⟩
    rw [Int8.toInt_toInt32, Int32.toInt_toInt8]
    have : Int.bmod x.toInt (2 ^ 8) = x.toInt - 256 := by
      rw [show x.toInt = (x.toInt - 256) + (2 ^ 8 : Nat) by omega]
      rw [Int.add_bmod_right, Int.bmod_eq_of_le (by omega) (by omega)]
      omega
    omega
theorem letter {vc vm : VI} {n p o c s : Nat} (h : PS vc vm n p o c s) : ∃ x y, LR x y ∧ fX10_looksOn vm = some y ∧ ((x = -1 ∧ p = n) ∨ (p < n ∧ vc 4 p = x ∧ 0 ≤ x.toInt)) ∧ (∀ rec z, fX8_readOperand rec z vc = fX8_readOperand_33 rec z x vc) ∧ fX8_partOfSign vc = fX8_partOfSign_24 vc x ∧ ∀ k : Int32, 0 ≤ k.toInt → fX8_passes k vc = if x = k then some (true, j_up vc 3 2 (nI (p + 1))) else some (false, vc) := by
  obtain ⟨⟨t1, t2, t3, t4⟩, q1, q2, q3, -, q5, q6, -, -⟩ := h
  by_cases c0 : p = n
  · have cc : nI n ≤ nI p := by rw [tle, c0]; omega
    refine ⟨-1, -1, Or.inl ⟨rfl, by rw [lm1]; omega, by rw [lm1]; omega⟩, ?_, Or.inl ⟨rfl, c0⟩, fun rec z => ?_, ?_, fun k hk => ?_⟩
    · unfold fX10_looksOn
      rw [t3, q5, if_pos cc]
    · unfold fX8_readOperand
      rw [q3, if_pos rfl, t2, q2, if_pos cc]
    · unfold fX8_partOfSign
      rw [t2, q2, if_pos cc]
    · unfold fX8_passes
      rw [q3, if_pos rfl, t2, q2, if_pos cc, if_neg (by intro e; rw [← e, lm1] at hk; omega)]
  · have cc : ¬ nI n ≤ nI p := by rw [tle, tnI (by omega), tnI (by omega)]; omega
    have b : 0 ≤ (nI p).toInt ∧ (nI p).toInt < (120 : Nat) := by rw [tnI (by omega)]; omega
    have cp : (nI p).toNatClampNeg = p := nI_clamp (by omega)
    obtain ⟨r1, r2⟩ := t4 p (by omega)
    refine ⟨vc 4 p, vm 74 p, by rw [r2]; exact byte_lr r1, ?_, Or.inr ⟨by omega, rfl, r1.1⟩, fun rec z => ?_, ?_, fun k hk => ?_⟩
    · unfold fX10_looksOn
      rw [t3, q5, if_neg cc, if_inb b, cp]
    · unfold fX8_readOperand
      rw [q3, if_pos rfl, t2, q2, if_neg cc, if_inb b, cp]
    · unfold fX8_partOfSign
      rw [t2, q2, if_neg cc, if_inb b, cp]
    · unfold fX8_passes
      rw [q3, if_pos rfl, t2, q2, if_neg cc, if_inb b, cp, nI_1]
theorem name_same (x : Int32) : fX8_nameOf x = fX10_nameOf x := rfl
theorem name_of (x : Int32) : fX10_nameOf x = some (-1) ∨ ∃ q, q < 6 ∧ fX10_nameOf x = some (nI q) ∧ 97 ≤ x.toInt ∧ x.toInt ≤ 127 := by
  have t103 : (103 : Int32).toInt = 103 := rfl
  have t104 : (104 : Int32).toInt = 104 := rfl
  have t107 : (107 : Int32).toInt = 107 := rfl
  have t110 : (110 : Int32).toInt = 110 := rfl
  have t115 : (115 : Int32).toInt = 115 := rfl
  have t119 : (119 : Int32).toInt = 119 := rfl
  unfold fX10_nameOf
  by_cases c1 : x = 103
  · rw [if_pos c1]; exact Or.inr ⟨2, by omega, rfl, by rw [c1, t103]; omega, by rw [c1, t103]; omega⟩
  rw [if_neg c1]
  by_cases c2 : x = 104
  · rw [if_pos c2]; exact Or.inr ⟨1, by omega, rfl, by rw [c2, t104]; omega, by rw [c2, t104]; omega⟩
  rw [if_neg c2]
  by_cases c3 : x = 105
  · rw [if_pos c3]; exact Or.inl rfl
  rw [if_neg c3]
  by_cases c4 : x = 106
  · rw [if_pos c4]; exact Or.inl rfl
  rw [if_neg c4]
  by_cases c5 : x = 107
  · rw [if_pos c5]; exact Or.inr ⟨4, by omega, rfl, by rw [c5, t107]; omega, by rw [c5, t107]; omega⟩
  rw [if_neg c5]
  by_cases c6 : x = 108
  · rw [if_pos c6]; exact Or.inl rfl
  rw [if_neg c6]
  by_cases c7 : x = 109
  · rw [if_pos c7]; exact Or.inl rfl
  rw [if_neg c7]
  by_cases c8 : x = 110
  · rw [if_pos c8]; exact Or.inr ⟨0, by omega, rfl, by rw [c8, t110]; omega, by rw [c8, t110]; omega⟩
  rw [if_neg c8]
  by_cases c9 : x = 111
  · rw [if_pos c9]; exact Or.inl rfl
  rw [if_neg c9]
  by_cases c10 : x = 112
  · rw [if_pos c10]; exact Or.inl rfl
  rw [if_neg c10]
  by_cases c11 : x = 113
  · rw [if_pos c11]; exact Or.inl rfl
  rw [if_neg c11]
  by_cases c12 : x = 114
  · rw [if_pos c12]; exact Or.inl rfl
  rw [if_neg c12]
  by_cases c13 : x = 115
  · rw [if_pos c13]; exact Or.inr ⟨3, by omega, rfl, by rw [c13, t115]; omega, by rw [c13, t115]; omega⟩
  rw [if_neg c13]
  by_cases c14 : x = 116
  · rw [if_pos c14]; exact Or.inl rfl
  rw [if_neg c14]
  by_cases c15 : x = 117
  · rw [if_pos c15]; exact Or.inl rfl
  rw [if_neg c15]
  by_cases c16 : x = 118
  · rw [if_pos c16]; exact Or.inl rfl
  rw [if_neg c16]
  by_cases c17 : x = 119
  · rw [if_pos c17]; exact Or.inr ⟨5, by omega, rfl, by rw [c17, t119]; omega, by rw [c17, t119]; omega⟩
  rw [if_neg c17]
  exact Or.inl rfl
theorem name_neg {x : Int32} (h : x.toInt < 97 ∨ 127 < x.toInt) : fX10_nameOf x = some (-1) := by
  rcases name_of x with e | ⟨q, -, -, h1, h2⟩
  · exact e
  · omega
theorem name_lr {x y : Int32} (h : LR x y) : fX8_nameOf x = fX10_nameOf y := by
  rw [name_same]
  rcases h with ⟨rfl, -, -⟩ | ⟨a, b⟩
  · rfl
  · rw [name_neg (Or.inr (by omega)), name_neg (Or.inl (by omega))]
/-- adding a step -/
theorem add_ok {vc : VI} {c : Nat} (h : vc 9 1 = nI c) (hc : c < 121) (x : Int32) : fX5_add 9 x vc = some (j_up (j_up vc 10 c x) 9 1 (nI (c + 1))) := by
  unfold fX5_add
  rw [h, if_neg (by rw [tle, l121, tnI (by omega)]; omega), if_inb (by rw [tnI (by omega)]; omega), nI_clamp (by omega)]
  show some (j_up (j_up vc 10 c x) 9 1 ((j_up vc 10 c x) 9 1 + 1)) = _
  rw [up_o (by decide), h, nI_1]
theorem step_ok {vm : VI} {s : Nat} (h : vm 63 20 = nI s) (hs : s < 130) {x : Int32} (hx : 0 ≤ x.toInt ∧ x.toInt ≤ 127) (w : Int32) : fX10_addStep x w vm = some (j_up (j_up (j_up vm 75 (130 + s) x) 76 (130 + s) w) 63 20 (nI (s + 1))) := by
  have e : (130 + nI s : Int32) = nI (130 + s) := by rw [show (130 : Int32) = nI 130 from rfl, nI_add]
  have b : 0 ≤ (nI (130 + s)).toInt ∧ (nI (130 + s)).toInt < (260 : Nat) := by rw [tnI (by omega)]; omega
  have i8 : x.toInt8.toInt32 = x := i8id (by omega)
  have u : ∀ z : Int32, (j_up vm 75 (130 + s) z) 63 20 = nI s := fun z => by rw [up_o (by decide)]; exact h
  have u2 : ∀ z z' : Int32, (j_up (j_up vm 75 (130 + s) z) 76 (130 + s) z') 63 20 = nI s := fun z z' => by rw [up_o (by decide)]; exact u z
  unfold fX10_addStep
  simp only [h, e, if_inb b, nI_clamp (show 130 + s < 2 ^ 31 by omega), i8, u, u2, nI_1]
theorem badC_add {vc : VI} {n f : Nat} (h : BadC vc n f) (x : Int32) : ∃ vc', fX5_add 9 x vc = some vc' ∧ BadC vc' n f ∧ FC0 vc vc' := by
  obtain ⟨h1, ⟨c, hc, h2⟩, h3⟩ := h
  by_cases q : c < 121
  · refine ⟨_, add_ok h2 q x, ⟨?_, ⟨c + 1, by omega, up_s⟩, ?_⟩, fun a i q1 q2 q3 => ?_⟩
    · rw [up_o (by decide), up_o (by decide)]; exact h1
    · simp only [up_o (show (3 : Nat) ≠ 9 by decide), up_o (show (3 : Nat) ≠ 10 by decide), up_o (show (4 : Nat) ≠ 9 by decide), up_o (show (4 : Nat) ≠ 10 by decide)]
      exact h3
    · rw [up_at, if_neg q2, up_o q3]
  · refine ⟨vc, ?_, ⟨h1, ⟨c, hc, h2⟩, h3⟩, fc0_rfl vc⟩
    unfold fX5_add
    rw [h2, if_pos (by rw [tle, l121, tnI (by omega)]; omega)]
theorem badM_add {vm : VI} {n f p s : Nat} (h : BadM vm n f p s) (hs : s < 130) {x : Int32} (hx : 0 ≤ x.toInt ∧ x.toInt ≤ 127) (w : Int32) : ∃ vm', fX10_addStep x w vm = some vm' ∧ BadM vm' n f p (s + 1) ∧ FM0 vm vm' := by
  obtain ⟨h1, h2, h3, h4, h5, h6⟩ := h
  refine ⟨_, step_ok h6 hs hx w, ⟨?_, ?_, h3, ?_, h5, up_s⟩, fun a i q1 q2 q3 => ?_⟩
  · rw [up_i (by decide), up_o (by decide), up_o (by decide)]; exact h1
  · rw [up_i (by decide), up_o (by decide), up_o (by decide)]; exact h2
  · rw [up_i (by decide), up_o (by decide), up_o (by decide)]; exact h4
  · rw [up_at, if_neg (by omega), up_at, if_neg (by omega), up_at, if_neg (by omega)]
