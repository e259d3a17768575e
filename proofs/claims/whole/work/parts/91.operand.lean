/-! READING A TEXT: an operand -/
def Good (n p o c s : Nat) (vc vm vc' vm' : VI) : Prop := ∃ p' l, p < p' ∧ l.length ≤ p' - p ∧ (∀ h, hrun l h = some (h + 1)) ∧ PS vc' vm' n p' o (c + l.length) (s + l.length) ∧ SegAt vc' vm' 10 c (130 + s) l ∧ FC c vc vc' ∧ FM s vm vm'
def Bad (n p s : Nat) (vc vm vc' vm' : VI) : Prop := ∃ f p' s', BadC vc' n f ∧ BadM vm' n f p' s' ∧ s' + p ≤ s + p' + 1 ∧ p ≤ p' ∧ FC0 vc vc' ∧ FM0 vm vm'
def Out (n p o c s : Nat) (vc vm : VI) (Rc Rm : Option VI) : Prop := ∃ vc' vm', Rc = some vc' ∧ Rm = some vm' ∧ (Good n p o c s vc vm vc' vm' ∨ Bad n p s vc vm vc' vm')
def PSpec (o : Nat) (Fc Fm : VI → Option VI) : Prop := ∀ n p c s vc vm, PS vc vm n p o c s → s ≤ p → c ≤ p → Out n p o c s vc vm (Fc vc) (Fm vm)
theorem hrun_app : ∀ (l m : List Int32) (h : Nat), hrun (l ++ m) h = (hrun l h).bind fun h' => hrun m h'
  | [], _, _ => rfl
  | a :: l, m, h => by
    simp only [List.cons_append, hrun]
    cases hst a h with
    | none => rfl
    | some k => simp only [Option.bind_some]; exact hrun_app l m k
theorem seg_app {vc vm : VI} {ob c q : Nat} {l m : List Int32} (h1 : SegAt vc vm ob c q l) (h2 : SegAt vc vm ob (c + l.length) (q + l.length) m) : SegAt vc vm ob c q (l ++ m) := by
  intro i hi
  rw [List.length_append] at hi
  by_cases k : i < l.length
  · have := h1 i k
    rw [List.getD_eq_getElem?_getD, List.getElem?_append_left k, ← List.getD_eq_getElem?_getD]
    exact this
  · have := h2 (i - l.length) (by omega)
    rw [List.getD_eq_getElem?_getD, List.getElem?_append_right (by omega), ← List.getD_eq_getElem?_getD]
    rw [show c + l.length + (i - l.length) = c + i by omega, show q + l.length + (i - l.length) = q + i by omega] at this
    exact this
theorem seg_one {vc vm : VI} {ob c q : Nat} {x : Int32} (h1 : vc ob c = x) (h2 : stepIs x (vm 75 q) (vm 76 q)) : SegAt vc vm ob c q [x] := by
  intro i hi
  have : i = 0 := by simp at hi; omega
  subst this
  exact ⟨h1, h2⟩
theorem seg_keep {vc vm vc' vm' : VI} {c c0 s s0 : Nat} {l : List Int32} (h : SegAt vc vm 10 c0 (130 + s0) l) (h1 : FC c vc vc') (h2 : FM s vm vm') (e1 : c0 + l.length ≤ c) (e2 : s0 + l.length ≤ s) : SegAt vc' vm' 10 c0 (130 + s0) l := by
  intro i hi
  rw [h1.2 (c0 + i) (by omega), (h2.2 (130 + s0 + i) (by omega)).1, (h2.2 (130 + s0 + i) (by omega)).2]
  exact h i hi
/-- one step more on either side -/
theorem add_both {vc vm : VI} {n p o c s : Nat} (h : PS vc vm n p o c s) (hc : c < 121) (hs : s < 130) {x a w : Int32} (ha : 0 ≤ a.toInt ∧ a.toInt ≤ 127) (hi : stepIs x a w) : ∃ vc' vm', fX5_add 9 x vc = some vc' ∧ fX10_addStep a w vm = some vm' ∧ PS vc' vm' n p o (c + 1) (s + 1) ∧ SegAt vc' vm' 10 c (130 + s) [x] ∧ FC c vc vc' ∧ FM s vm vm' := by
  obtain ⟨t, q1, q2, q3, q4, q5, q6, q7, q8⟩ := h
  have f1 : FC c vc (j_up (j_up vc 10 c x) 9 1 (nI (c + 1))) := ⟨fun b i g1 g2 g3 => by rw [up_at, if_neg g2, up_o g3], fun i hi => by rw [up_o (by decide), up_i (by omega)]⟩
  have f2 : FM s vm (j_up (j_up (j_up vm 75 (130 + s) a) 76 (130 + s) w) 63 20 (nI (s + 1))) := ⟨fun b i g1 g2 g3 => by rw [up_at, if_neg (by omega), up_at, if_neg (by omega), up_at, if_neg (by omega)], fun i hi => ⟨by rw [up_o (by decide), up_o (by decide), up_i (by omega)], by rw [up_o (by decide), up_i (by omega), up_o (by decide)]⟩⟩
  refine ⟨_, _, add_ok q4 hc x, step_ok q8 hs ha w, ⟨ts_fr t f1.1 f2.1, q1, ?_, ?_, up_s, ?_, ?_, ?_, up_s⟩, seg_one ?_ ?_, f1, f2⟩
  · rw [up_o (by decide), up_o (by decide)]; exact q2
  · rw [up_o (by decide), up_o (by decide)]; exact q3
  · rw [up_i (by decide), up_o (by decide), up_o (by decide)]; exact q5
  · rw [up_i (by decide), up_o (by decide), up_o (by decide)]; exact q6
  · rw [up_i (by decide), up_o (by decide), up_o (by decide)]; exact q7
  · rw [up_o (by decide), up_s]
  · rw [up_o (by decide), up_o (by decide), up_s, up_o (by decide), up_s]; exact hi
/-- one letter further on -/
theorem go_on {vc vm : VI} {n p o c s : Nat} (h : PS vc vm n p o c s) (hp : p < n) : PS (j_up vc 3 2 (nI (p + 1))) (j_up vm 63 17 (nI (p + 1))) n (p + 1) o c s ∧ FC c vc (j_up vc 3 2 (nI (p + 1))) ∧ FM s vm (j_up vm 63 17 (nI (p + 1))) := by
  obtain ⟨t, q1, q2, q3, q4, q5, q6, q7, q8⟩ := h
  have f1 : FC c vc (j_up vc 3 2 (nI (p + 1))) := ⟨fun b i g1 g2 g3 => by rw [up_at, if_neg (by omega)], fun i hi => up_o (by decide)⟩
  have f2 : FM s vm (j_up vm 63 17 (nI (p + 1))) := ⟨fun b i g1 g2 g3 => by rw [up_at, if_neg (by omega)], fun i hi => ⟨up_o (by decide), up_o (by decide)⟩⟩
  refine ⟨⟨ts_fr t f1.1 f2.1, by omega, up_s, ?_, ?_, up_s, ?_, ?_, ?_⟩, f1, f2⟩
  · rw [up_i (by decide)]; exact q3
  · rw [up_o (by decide)]; exact q4
  · rw [up_i (by decide)]; exact q6
  · rw [up_i (by decide)]; exact q7
  · rw [up_i (by decide)]; exact q8
/-- a fault here -/
theorem fail_both {vc vm : VI} {n p o c s : Nat} (h : PS vc vm n p o c s) (hc : c ≤ 121) : BadC (j_up vc 3 3 (nI p)) n p ∧ fX10_wrong vm = some (j_up vm 63 18 (nI p)) ∧ BadM (j_up vm 63 18 (nI p)) n p p s ∧ FC0 vc (j_up vc 3 3 (nI p)) ∧ FM0 vm (j_up vm 63 18 (nI p)) := by
  obtain ⟨⟨t1, t2, t3, t4⟩, q1, q2, q3, q4, q5, q6, q7, q8⟩ := h
  refine ⟨⟨?_, ⟨c, hc, ?_⟩, Or.inl up_s⟩, ?_, ⟨?_, ?_, q1, up_s, q1, ?_⟩, fun b i g1 g2 g3 => by rw [up_at, if_neg (by omega)], fun b i g1 g2 g3 => by rw [up_at, if_neg (by omega)]⟩
  · rw [up_i (by decide)]; exact t2
  · rw [up_o (by decide)]; exact q4
  · unfold fX10_wrong
    rw [q6, if_neg (by decide), q5]
  · rw [up_i (by decide)]; exact t3
  · rw [up_i (by decide)]; exact q5
  · rw [up_i (by decide)]; exact q8
/-- a number -/
theorem num_loop {n o c s p0 : Nat} {vc0 vm0 : VI} : ∀ (m k p v : Nat) (vc vm : VI), 4 - k = m → k ≤ 4 → p = p0 + k → v < 10 ^ k → (k = 0 → ∃ x, vc 4 p = x ∧ p < n ∧ 48 ≤ x.toInt ∧ x.toInt ≤ 57) → PS vc vm n p o c s → s ≤ p0 → c ≤ p0 → FC c vc0 vc → FM s vm0 vm → ∀ F F', m < F → m < F' → Out n p0 o c s vc0 vm0 (fX8_readNumber_4 F (nI v) (nI k) vc) (fX10_figure_4 F' (nI v) (nI k) vm) := by
  have l48' : (48 : Int32).toInt = 48 := rfl
  have l57' : (57 : Int32).toInt = 57 := rfl
  -- the number ends here, k of its digits read
  have ends : ∀ (k p v : Nat) (vc vm : VI) (y : Int32), 1 ≤ k → k ≤ 4 → p = p0 + k → v < 10000 → PS vc vm n p o c s → s ≤ p0 → c ≤ p0 → FC c vc0 vc → FM s vm0 vm → fX10_looksOn vm = some y → ((48 ≤ y.toInt ∧ y.toInt ≤ 57) → p < n ∧ 48 ≤ (vc 4 p).toInt ∧ (vc 4 p).toInt ≤ 57) → Out n p0 o c s vc0 vm0 (fX8_readNumber_82 (nI v) vc) (fX10_figure_52 (nI v) (nI k) vm) := by
    intro k p v vc vm y h1 h4 hp hv hP hs hc f1 f2 hl hd
    have hn : n ≤ 120 := hP.1.1
    have hpn := hP.2.1
    have nk : ¬ nI k = 0 := by rw [teq, l0, tnI (by omega)]; omega
    unfold fX8_readNumber_82 fX10_figure_52
    rw [if_neg nk, hl, Option.bind_some, in_eq, Option.bind_some]
    by_cases cd : 48 ≤ y.toInt ∧ y.toInt ≤ 57
    · rw [if_pos (by rw [decide_eq_true_eq, l48', l57']; exact cd)]
      unfold fX10_figure_70 fX10_figure_74
      obtain ⟨g1, g2, g3, g4, g5⟩ := fail_both hP (by omega)
      obtain ⟨vm', e1, e2, e3⟩ := badM_add g3 (s := s) (by omega) (x := 1) (by decide) (nI v)
      have e1' : ((fX10_wrong vm).bind fun r1 => (fX10_addStep 1 (nI v) r1).bind fun r2 => some r2) = some vm' := by
        rw [g2, Option.bind_some, e1]; rfl
      have hP4 := hP.2.2.2.2.1
      refine ⟨j_up (j_up vc 10 c (nI v)) 9 1 (nI (c + 1)), vm', ?_, e1', Or.inr ⟨p, p, s + 1, ⟨?_, ⟨c + 1, by omega, up_s⟩, Or.inr ⟨?_, ?_, (hd cd).1, ?_, ?_⟩⟩, e2, by omega, by omega, ?_, fm0_tr f2.1 (fm0_tr g5 e3)⟩⟩
      · rw [add_ok hP4 (by omega)]; rfl
      · rw [up_o (by decide), up_o (by decide)]; exact hP.1.2.1
      · rw [up_o (by decide), up_o (by decide)]; exact hP.2.2.2.1
      · rw [up_o (by decide), up_o (by decide)]; exact hP.2.2.1
      · rw [up_o (by decide), up_o (by decide)]; exact (hd cd).2.1
      · rw [up_o (by decide), up_o (by decide)]; exact (hd cd).2.2
      · exact fc0_tr f1.1 fun b i q1 q2 q3 => by rw [up_at, if_neg q2, up_o q3]
    · rw [if_neg (by rw [decide_eq_true_eq, l48', l57']; exact cd)]
      unfold fX10_figure_74
      have hi : stepIs (nI v) 1 (nI v) := Or.inl ⟨by rw [tnI (by omega)]; omega, by rw [tnI (by omega)]; omega, rfl, rfl⟩
      obtain ⟨vc', vm', e1, e2, e3, e4, e5, e6⟩ := add_both hP (by omega) (by omega) (a := 1) (by decide) hi
      refine ⟨vc', vm', by rw [e1]; rfl, by rw [e2]; rfl, Or.inl ⟨p, [nI v], by omega, by simp; omega, fun h => ?_, e3, e4, fc_tr f1 e5 (Nat.le_refl _), fm_tr f2 e6 (Nat.le_refl _)⟩⟩
      show (hst (nI v) h).bind (fun h' => some h') = some (h + 1)
      unfold hst
      rw [if_pos (by rw [tnI (by omega)]; omega)]
      rfl
  intro m
  induction m with
  | zero =>
    intro k p v vc vm h1 h2 hp hv h0 hP hs hc f1 f2 F F' hF hF'
    have : k = 4 := by omega
    subst this
    obtain ⟨F, rfl⟩ : ∃ G, F = G + 1 := ⟨F - 1, by omega⟩
    obtain ⟨F', rfl⟩ : ∃ G, F' = G + 1 := ⟨F' - 1, by omega⟩
    obtain ⟨x, y, lr, ly, lx, -, -, -⟩ := letter hP
    rw [fX8_readNumber_4, fX10_figure_4, if_pos (by decide), if_pos (by decide)]
    refine ends 4 p v vc vm y (by omega) (by omega) hp (by simpa using hv) hP hs hc f1 f2 ly fun d => ?_
    have dx := (lr_in lr).mpr d
    rcases lx with ⟨e, -⟩ | ⟨e1, e2, -⟩
    · rw [e, lm1] at dx; omega
    · rw [e2]; exact ⟨e1, dx⟩
  | succ m ih =>
    intro k p v vc vm h1 h2 hp hv h0 hP hs hc f1 f2 F F' hF hF'
    obtain ⟨F, rfl⟩ : ∃ G, F = G + 1 := ⟨F - 1, by omega⟩
    obtain ⟨F', rfl⟩ : ∃ G, F' = G + 1 := ⟨F' - 1, by omega⟩
    have hn : n ≤ 120 := hP.1.1
    have hpn := hP.2.1
    obtain ⟨x, y, lr, ly, lx, -, -, -⟩ := letter hP
    have c4 : ¬ (4 : Int32) ≤ nI k := by rw [tle, l4, tnI (by omega)]; omega
    have hv4 : v < 10000 := by
      have : 10 ^ k ≤ 10 ^ 4 := Nat.pow_le_pow_right (by omega) (by omega)
      omega
    have o1 : 4 - (k + 1) = m := by clear h0 ends ih hP; omega
    have o2 : k + 1 ≤ 4 := by clear h0 ends ih hP; omega
    have o3 : p + 1 = p0 + (k + 1) := by clear h0 ends ih hP; omega
    have h31 := hP.1.2.1
    have h32 := hP.2.2.1
    have h17 := hP.2.2.2.2.2.1
    rw [fX8_readNumber_4, fX10_figure_4, if_neg c4, if_neg c4, ly, Option.bind_some, h31, h32]
    by_cases cd : 48 ≤ y.toInt ∧ y.toInt ≤ 57
    · have i48 : fX10_in y 48 57 = some true := by rw [in_eq, l48', l57', decide_eq_true cd]
      rw [i48, Option.bind_some, if_pos (show true = true from rfl), Option.bind_some]
      have dx := (lr_in lr).mpr cd
      rcases lx with ⟨e, -⟩ | ⟨e1, e2, e3⟩
      · rw [e, lm1] at dx; omega
      · have exy : x = y := by
          rcases lr with ⟨e, -⟩ | ⟨a, b⟩
          · exact e
          · omega
        obtain ⟨d, hd, ed⟩ := ex_nI (x := x) (N := 58) (by omega) (by omega) (by omega)
        have d48 : 48 ≤ d := by rw [ed, tnI (by omega)] at dx; omega
        have ev1 : (nI v * 10 + x - 48 : Int32) = nI (v * 10 + (d - 48)) := by
          rw [ed, show (10 : Int32) = nI 10 from rfl, show (48 : Int32) = nI 48 from rfl, nI_mul, nI_add, nI_sub (by omega)]
          congr 1; omega
        have ev2 : (10 * nI v + y - 48 : Int32) = nI (v * 10 + (d - 48)) := by
          rw [← exy, ed, show (10 : Int32) = nI 10 from rfl, show (48 : Int32) = nI 48 from rfl, nI_mul, nI_add, nI_sub (by omega)]
          congr 1; omega
        have bp : 0 ≤ (nI p).toInt ∧ (nI p).toInt < (120 : Nat) := by rw [tnI (by omega)]; omega
        have cp : (nI p).toNatClampNeg = p := nI_clamp (by omega)
        have w1 : ¬ nI n ≤ nI p := by rw [tle, tnI (by omega), tnI (by omega)]; omega
        have w2 : ¬ x < 48 := by rw [tlt, l48']; omega
        have w3 : ¬ (57 : Int32) < x := by rw [tlt, l57']; omega
        rw [if_neg w1, if_inb bp, cp, e2, if_neg w2, if_inb bp, if_neg w3, if_inb bp, ev1, ev2, h17, nI_1, nI_1]
        obtain ⟨g1, g2, g3⟩ := go_on hP e1
        refine ih (k + 1) (p + 1) (v * 10 + (d - 48)) _ _ o1 o2 o3 ?_ (fun z => absurd z (Nat.succ_ne_zero k)) g1 hs hc (fc_tr f1 g2 (Nat.le_refl _)) (fm_tr f2 g3 (Nat.le_refl _)) F F' (Nat.lt_of_succ_lt_succ hF) (Nat.lt_of_succ_lt_succ hF')
        rw [Nat.pow_succ]
        clear h0 ends ih hP
        omega
    · have i48 : fX10_in y 48 57 = some false := by rw [in_eq, l48', l57', decide_eq_false cd]
      rw [i48, Option.bind_some, if_neg (show ¬ false = true by decide)]
      have k1 : 1 ≤ k := by
        by_cases q : k = 0
        · obtain ⟨x', e1, e2, e3, e4⟩ := h0 q
          rcases lx with ⟨e, e'⟩ | ⟨-, e5, -⟩
          · omega
          · exact absurd ((lr_in lr).mp (by rw [← e5, e1]; exact ⟨e3, e4⟩)) cd
        · omega
      have res : (if nI n ≤ nI p then fX8_readNumber_82 (nI v) vc else if inb (nI p) 120 = true then if vc 4 (nI p).toNatClampNeg < 48 then fX8_readNumber_82 (nI v) vc else if inb (nI p) 120 = true then if 57 < vc 4 (nI p).toNatClampNeg then fX8_readNumber_82 (nI v) vc else if inb (nI p) 120 = true then fX8_readNumber_4 F (nI v * 10 + vc 4 (nI p).toNatClampNeg - 48) (nI k + 1) (j_up vc 3 2 (nI p + 1)) else none else none else none) = fX8_readNumber_82 (nI v) vc := by
        rcases lx with ⟨e, e'⟩ | ⟨e1, e2, e3⟩
        · rw [if_pos (by rw [tle, e']; omega)]
        · have bp : 0 ≤ (nI p).toInt ∧ (nI p).toInt < (120 : Nat) := by rw [tnI (by omega)]; omega
          have cp : (nI p).toNatClampNeg = p := nI_clamp (by omega)
          rw [if_neg (by rw [tle, tnI (by omega), tnI (by omega)]; omega), if_inb bp, cp, e2]
          by_cases q : x < 48
          · rw [if_pos q]
          · have q2 : (57 : Int32) < x := by
              rw [tlt, l48'] at q
              rw [tlt, l57']
              by_cases w : 57 < x.toInt
              · exact w
              · exact absurd ((lr_in lr).mp ⟨by omega, by omega⟩) cd
            rw [if_neg q, if_inb bp, if_pos q2]
      rw [res]
      exact ends k p v vc vm y k1 (by omega) hp hv4 hP hs hc f1 f2 ly fun d => absurd d cd
theorem num_both {n p o c s : Nat} {vc vm : VI} (h : PS vc vm n p o c s) (hs : s ≤ p) (hc : c ≤ p) (hp : p < n) (hd : 48 ≤ (vc 4 p).toInt ∧ (vc 4 p).toInt ≤ 57) : Out n p o c s vc vm (fX8_readNumber vc) (fX10_figure vm) := by
  unfold fX8_readNumber fX10_figure
  exact num_loop 4 0 p 0 vc vm (by omega) (by omega) (by omega) (by decide) (fun _ => ⟨_, rfl, hp, hd⟩) h hs hc (fc_rfl c vc) (fm_rfl s vm) FU FU (by rw [FU_eq]; omega) (by rw [FU_eq]; omega)
