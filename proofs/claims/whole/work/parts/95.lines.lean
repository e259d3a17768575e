/-! READING A TEXT: a line -/
theorem i16id {x : Int32} (h : -32768 ≤ x.toInt ∧ x.toInt ≤ 32767) : x.toInt16.toInt32 = x := by
  rw [teq, Int16.toInt_toInt32, Int32.toInt_toInt16]
  rw [Int.bmod_eq_of_le (by omega) (by omega)]
def FML0 (vm vm' : VI) : Prop := ∀ a i, ¬ (a = 63 ∧ 17 ≤ i ∧ i ≤ 20) → ¬ (a = 75 ∧ 130 ≤ i) → ¬ (a = 76 ∧ 130 ≤ i) → ¬ (a = 77 ∧ i = 1) → ¬ (a = 78 ∧ 61 ≤ i) → ¬ (a = 79 ∧ 61 ≤ i) → vm' a i = vm a i
def FML (s j : Nat) (vm vm' : VI) : Prop := FML0 vm vm' ∧ (∀ i, i < 130 + s → vm' 75 i = vm 75 i ∧ vm' 76 i = vm 76 i) ∧ ∀ i, i < 61 + j → vm' 78 i = vm 78 i ∧ vm' 79 i = vm 79 i
theorem fml_of {s j : Nat} {vm vm' : VI} (h : FM s vm vm') : FML s j vm vm' := ⟨fun a i q1 q2 q3 _ _ _ => h.1 a i q1 q2 q3, h.2, fun i _ => ⟨h.1 78 i (by omega) (by omega) (by omega), h.1 79 i (by omega) (by omega) (by omega)⟩⟩
theorem fml0_of {vm vm' : VI} (h : FM0 vm vm') : FML0 vm vm' := fun a i q1 q2 q3 _ _ _ => h a i q1 q2 q3
theorem fml0_tr {a b d : VI} (h : FML0 a b) (g : FML0 b d) : FML0 a d := fun x i q1 q2 q3 q4 q5 q6 => (g x i q1 q2 q3 q4 q5 q6).trans (h x i q1 q2 q3 q4 q5 q6)
theorem fml_tr {s s' j j' : Nat} {a b d : VI} (h : FML s j a b) (g : FML s' j' b d) (e : s ≤ s') (e' : j ≤ j') : FML s j a d := ⟨fml0_tr h.1 g.1, fun i hi => ⟨((g.2.1 i (by omega)).1).trans (h.2.1 i hi).1, ((g.2.1 i (by omega)).2).trans (h.2.1 i hi).2⟩, fun i hi => ⟨((g.2.2 i (by omega)).1).trans (h.2.2 i hi).1, ((g.2.2 i (by omega)).2).trans (h.2.2 i hi).2⟩⟩
theorem ts_fl {vc vm vc' vm' : VI} {n : Nat} (h : TS vc vm n) (h1 : FC0 vc vc') (h2 : FML0 vm vm') : TS vc' vm' n := by
  obtain ⟨t1, t2, t3, t4⟩ := h
  refine ⟨t1, (h1 3 1 (by omega) (by omega) (by omega)).trans t2, (h2 63 16 (by omega) (by omega) (by omega) (by omega) (by omega) (by omega)).trans t3, fun i hi => ?_⟩
  rw [h1 4 i (by omega) (by omega) (by omega), h2 74 i (by omega) (by omega) (by omega) (by omega) (by omega) (by omega)]
  exact t4 i hi
def GoodL (n p c s j : Nat) (vc vm vc' vm' : VI) : Prop := ∃ p' t v, p < p' ∧ tl0 t + v.length ≤ p' - p ∧ t.length + v.length ≤ p' - p ∧ PS vc' vm' n p' 0 (c + tl0 t + v.length + 1) (s + t.length + v.length) ∧ linesAt vc' vm' 10 1 [(t, v)] j c s ∧ vm' 77 1 = nI (j + 1) ∧ FC c vc vc' ∧ FML s j vm vm'
def BadL (n : Nat) (vc vm vc' vm' : VI) : Prop := ∃ f p' s', BadC vc' n f ∧ BadM vm' n f p' s' ∧ FC0 vc vc' ∧ FML0 vm vm'
/-- the line's end -/
theorem end_line {vc vm : VI} {n p c s j : Nat} (h : PS vc vm n p 0 c s) (hc : c < 121) (hs : s ≤ 200) (h77 : vm 77 1 = nI j) (hj : j ≤ 60) : ∃ vc' vm', fX8_readLine_31 vc = some vc' ∧ fX10_line_66 (nI (61 + j)) vm = some vm' ∧ PS vc' vm' n p 0 (c + 1) s ∧ vc' 10 c = 20059 ∧ vm' 79 (61 + j) = nI s ∧ vm' 77 1 = nI (j + 1) ∧ (∀ i, vm' 78 i = vm 78 i) ∧ FC c vc vc' ∧ FML s j vm vm' ∧ ∀ i, vm' 75 i = vm 75 i ∧ vm' 76 i = vm 76 i := by
  obtain ⟨t, q1, q2, q3, q4, q5, q6, q7, q8⟩ := h
  have f1 : FC c vc (j_up (j_up vc 10 c 20059) 9 1 (nI (c + 1))) := ⟨fun b i g1 g2 g3 => by rw [up_at, if_neg g2, up_o g3], fun i hi => by rw [up_o (by decide), up_i (by omega)]⟩
  have f2 : FML s j vm (j_up (j_up vm 79 (61 + j) (nI s)) 77 1 (nI (j + 1))) := ⟨fun b i g1 g2 g3 g4 g5 g6 => by rw [up_at, if_neg g4, up_at, if_neg (by omega)], fun i _ => ⟨by rw [up_o (by decide), up_o (by decide)], by rw [up_o (by decide), up_o (by decide)]⟩, fun i hi => ⟨by rw [up_o (by decide), up_o (by decide)], by rw [up_o (by decide), up_i (by omega)]⟩⟩
  refine ⟨_, j_up (j_up vm 79 (61 + j) (nI s)) 77 1 (nI (j + 1)), ?_, ?_, ⟨ts_fl t f1.1 f2.1, q1, ?_, ?_, up_s, ?_, ?_, ?_, ?_⟩, ?_, ?_, up_s, fun i => ?_, f1, f2, fun i => ⟨?_, ?_⟩⟩
  · unfold fX8_readLine_31
    rw [add_ok q4 hc]; rfl
  · unfold fX10_line_66
    have es : (nI s).toInt16.toInt32 = nI s := i16id (by rw [tnI (by omega)]; omega)
    rw [if_inb (by rw [tnI (by omega)]; omega), nI_clamp (by omega), q8, es, es]
    simp only [show (1 : Int32).toNatClampNeg = 1 from rfl]
    rw [up_o (show (77 : Nat) ≠ 79 by decide), h77, nI_1]
  · rw [up_o (by decide), up_o (by decide)]; exact q2
  · rw [up_o (by decide), up_o (by decide)]; exact q3
  · rw [up_o (by decide), up_o (by decide)]; exact q5
  · rw [up_o (by decide), up_o (by decide)]; exact q6
  · rw [up_o (by decide), up_o (by decide)]; exact q7
  · rw [up_o (by decide), up_o (by decide)]; exact q8
  · rw [up_o (by decide), up_s]
  · rw [up_o (by decide), up_s]
  · rw [up_o (by decide), up_o (by decide)]
  · rw [up_o (by decide), up_o (by decide)]
  · rw [up_o (by decide), up_o (by decide)]
theorem bad_end {vc vm : VI} {n f p s j : Nat} (h1 : BadC vc n f) (h2 : BadM vm n f p s) (hs : s ≤ 200) (h77 : vm 77 1 = nI j) (hj : j ≤ 60) : ∃ vc' vm', fX8_readLine_31 vc = some vc' ∧ fX10_line_66 (nI (61 + j)) vm = some vm' ∧ BadC vc' n f ∧ BadM vm' n f p s ∧ FC0 vc vc' ∧ FML0 vm vm' := by
  obtain ⟨vc', a1, a2, a3⟩ := badC_add h1 20059
  obtain ⟨y1, y2, y3, y4, y5, y6⟩ := h2
  refine ⟨vc', j_up (j_up vm 79 (61 + j) (nI s)) 77 1 (nI (j + 1)), ?_, ?_, a2, ⟨?_, ?_, y3, ?_, y5, ?_⟩, a3, fun b i g1 g2 g3 g4 g5 g6 => by rw [up_at, if_neg g4, up_at, if_neg (by omega)]⟩
  · unfold fX8_readLine_31
    rw [a1]; rfl
  · unfold fX10_line_66
    have es : (nI s).toInt16.toInt32 = nI s := i16id (by rw [tnI (by omega)]; omega)
    rw [if_inb (by rw [tnI (by omega)]; omega), nI_clamp (by omega), y6, es, es]
    simp only [show (1 : Int32).toNatClampNeg = 1 from rfl]
    rw [up_o (show (77 : Nat) ≠ 79 by decide), h77, nI_1]
  · rw [up_o (by decide), up_o (by decide)]; exact y1
  · rw [up_o (by decide), up_o (by decide)]; exact y2
  · rw [up_o (by decide), up_o (by decide)]; exact y4
  · rw [up_o (by decide), up_o (by decide)]; exact y6
theorem run_ne {l : List Int32} (h : ∀ k, hrun l k = some (k + 1)) : l ≠ [] := by
  intro q
  have := h 0
  rw [q] at this
  simp [hrun] at this
theorem line_both {n p c s j : Nat} {vc vm : VI} (hP : PS vc vm n p 0 c s) (hs : s ≤ p) (hc : c ≤ p) (h77 : vm 77 1 = nI j) (hj : 2 * j ≤ p) : ∃ vc' vm', fX8_readLine vc = some vc' ∧ fX10_line vm = some vm' ∧ (GoodL n p c s j vc vm vc' vm' ∨ BadL n vc vm vc' vm') := by
  have hn : n ≤ 120 := hP.1.1
  have hpn := hP.2.1
  have h20 := hP.2.2.2.2.2.2.2.2
  have ek : (61 + nI j : Int32) = nI (61 + j) := by rw [show (61 : Int32) = nI 61 from rfl, nI_add]
  have b122 : 0 ≤ (nI (61 + j)).toInt ∧ (nI (61 + j)).toInt < (122 : Nat) := by rw [tnI (by omega)]; omega
  have ck : (nI (61 + j)).toNatClampNeg = 61 + j := nI_clamp (by omega)
  have z1 : (1 : Int32).toNatClampNeg = 1 := rfl
  -- the first mark of the line
  obtain ⟨vm0, hv0⟩ : ∃ vm0, vm0 = j_up vm 78 (61 + j) (nI s) := ⟨_, rfl⟩
  have f0 : FML s j vm vm0 := by
    rw [hv0]
    exact ⟨fun b i g1 g2 g3 g4 g5 g6 => by rw [up_at, if_neg (by omega)], fun i _ => ⟨up_o (by decide), up_o (by decide)⟩, fun i hi => ⟨up_i (by omega), up_o (by decide)⟩⟩
  have P0 : PS vc vm0 n p 0 c s := by
    obtain ⟨t, q1, q2, q3, q4, q5, q6, q7, q8⟩ := hP
    exact ⟨ts_fl t (fc0_rfl vc) f0.1, q1, q2, q3, q4, by rw [hv0, up_o (by decide)]; exact q5, by rw [hv0, up_o (by decide)]; exact q6, by rw [hv0, up_o (by decide)]; exact q7, by rw [hv0, up_o (by decide)]; exact q8⟩
  have h78 : vm0 78 (61 + j) = nI s := by rw [hv0, up_s]
  have h770 : vm0 77 1 = nI j := by rw [hv0, up_o (by decide)]; exact h77
  have es : (nI s).toInt16.toInt32 = nI s := i16id (by rw [tnI (by omega)]; omega)
  obtain ⟨vc1, vm1, r1, r2, r3⟩ := parse_both n p c s vc vm0 P0 hs hc
  unfold fX8_readLine fX10_line
  rw [r1, Option.bind_some, z1, h77, ek, if_inb b122, ck, h20, es, es, ← hv0, r2, Option.bind_some]
  rcases r3 with ⟨p1, l, g1, g2, g3, g4, g5, g6, g7⟩ | ⟨f, p', s', g1, g2, g3, g4, g5, g6⟩
  · obtain ⟨x, y, lr, ly, lx, -, -, pass⟩ := letter g4
    have h63 := g4.2.2.2.2.2.2.1
    have hp1n := g4.2.1
    have k77 : vm1 77 1 = nI j := (g7.1 77 1 (by omega) (by omega) (by omega)).trans h770
    rw [pass 63 (by decide), if_neg (nf h63), ly, Option.bind_some]
    by_cases cq : x = 63
    · -- ?
      have cy : y = 63 := (lr_eq lr (by decide) (by decide)).mp cq
      have hp : p1 < n := by
        rcases lx with ⟨e, -⟩ | ⟨e1, -, -⟩
        · rw [cq] at e; exact absurd e (by decide)
        · exact e1
      have h17 := g4.2.2.2.2.2.1
      have h201 := g4.2.2.2.2.2.2.2.2
      have es1 : (nI (s + l.length)).toInt16.toInt32 = nI (s + l.length) := i16id (by rw [tnI (by omega)]; omega)
      rw [if_pos cq, Option.bind_some, if_pos cy, if_inb b122, h17, nI_1, up_i (show (20 : Nat) ≠ 17 by decide), h201, es1, es1]
      simp only [if_true]
      obtain ⟨o1, o2, o3⟩ := go_on g4 hp
      -- the class's sign, the model's mark
      obtain ⟨vca, hva⟩ : ∃ v, v = j_up (j_up (j_up vc1 3 2 (nI (p1 + 1))) 10 (c + l.length) 20063) 9 1 (nI (c + l.length + 1)) := ⟨_, rfl⟩
      obtain ⟨vma, hma⟩ : ∃ v, v = j_up (j_up vm1 63 17 (nI (p1 + 1))) 78 (61 + j) (nI (s + l.length)) := ⟨_, rfl⟩
      have fa1 : FC (c + l.length) (j_up vc1 3 2 (nI (p1 + 1))) vca := by
        rw [hva]
        exact ⟨fun b i g1 g2 g3 => by rw [up_at, if_neg g2, up_o g3], fun i hi => by rw [up_o (by decide), up_i (by omega)]⟩
      have fa2 : FML (s + l.length) j (j_up vm1 63 17 (nI (p1 + 1))) vma := by
        rw [hma]
        exact ⟨fun b i g1 g2 g3 g4 g5 g6 => by rw [up_at, if_neg (by omega)], fun i _ => ⟨up_o (by decide), up_o (by decide)⟩, fun i hi => ⟨up_i (by omega), up_o (by decide)⟩⟩
      have Pa : PS vca vma n (p1 + 1) 0 (c + l.length + 1) (s + l.length) := by
        obtain ⟨t, q1, q2, q3, q4, q5, q6, q7, q8⟩ := o1
        refine ⟨ts_fl t fa1.1 fa2.1, q1, ?_, ?_, by rw [hva, up_s], ?_, ?_, ?_, ?_⟩
        · rw [hva, up_o (by decide), up_o (by decide)]; exact q2
        · rw [hva, up_o (by decide), up_o (by decide)]; exact q3
        · rw [hma, up_o (by decide)]; exact q5
        · rw [hma, up_o (by decide)]; exact q6
        · rw [hma, up_o (by decide)]; exact q7
        · rw [hma, up_o (by decide)]; exact q8
      have ea : fX5_add 9 20063 (j_up vc1 3 2 (nI (p1 + 1))) = some vca := by
        rw [add_ok (c := c + l.length) o1.2.2.2.2.1 (by omega), hva]
      rw [ea, Option.bind_some, ← hma]
      have a78 : vma 78 (61 + j) = nI (s + l.length) := by rw [hma, up_s]
      have a77 : vma 77 1 = nI j := by rw [hma, up_o (by decide), up_o (by decide)]; exact k77
      have a10 : vca 10 (c + l.length) = 20063 := by rw [hva, up_o (by decide), up_s]
      obtain ⟨vcb, vmb, u1, u2, u3⟩ := parse_both n (p1 + 1) (c + l.length + 1) (s + l.length) vca vma Pa (by omega) (by omega)
      rw [u1, Option.bind_some, u2, Option.bind_some]
      have FCa : FC c vc vca := fc_tr g6 (fc_tr o2 fa1 (Nat.le_refl _)) (by omega)
      have FMa : FML s j vm vma := fml_tr f0 (fml_tr (fml_of g7) (fml_tr (fml_of o3) fa2 (Nat.le_refl _) (Nat.le_refl j)) (by omega) (Nat.le_refl j)) (Nat.le_refl _) (Nat.le_refl j)
      rcases u3 with ⟨p2, l2, w1, w2, w3, w4, w5, w6, w7⟩ | ⟨f, p', s', w1, w2, w3, w4, w5, w6⟩
      · have hp2n := w4.2.1
        have b77 : vmb 77 1 = nI j := (w7.1 77 1 (by omega) (by omega) (by omega)).trans a77
        obtain ⟨vc2, vm2, e1, e2, e3, e4, e5, e6, e7, e8, e9, e10⟩ := end_line w4 (by omega) (by omega) b77 (by omega)
        rw [e1, e2]
        have tlz : tl0 l = l.length + 1 := if_neg (run_ne g3)
        refine ⟨vc2, vm2, rfl, rfl, Or.inl ⟨p2, l, l2, by omega, by omega, by omega, ?_, ⟨w3 0, Or.inr (g3 0), ?_, ?_, ?_, fun _ => ?_, ?_, ?_, trivial⟩, e6, fc_tr FCa (fc_tr w6 e8 (by omega)) (by omega), fml_tr FMa (fml_tr (fml_of (j := j) w7) e9 (by omega) (Nat.le_refl _)) (by omega) (Nat.le_refl _)⟩⟩
        · rw [tlz, show c + (l.length + 1) + l2.length + 1 = c + l.length + 1 + l2.length + 1 by omega]
          exact e3
        · show vm2 78 (61 + j) = nI (s + l.length)
          rw [e7, w7.1 78 _ (by omega) (by omega) (by omega)]; exact a78
        · show vm2 79 (61 + j) = nI (s + l.length + l2.length)
          exact e5
        · refine seg_gen g5 (fun i hi => ⟨?_, ?_, ?_⟩)
          · rw [e8.2 _ (by omega), w6.2 _ (by omega), fa1.2 _ (by omega), o2.2 _ (by omega)]
          · show vm2 75 (130 + s + i) = vm1 75 (130 + s + i)
            rw [(e10 _).1, (w7.2 _ (by omega)).1, (fa2.2.1 _ (by omega)).1, (o3.2 _ (by omega)).1]
          · show vm2 76 (130 + s + i) = vm1 76 (130 + s + i)
            rw [(e10 _).2, (w7.2 _ (by omega)).2, (fa2.2.1 _ (by omega)).2, (o3.2 _ (by omega)).2]
        · rw [e8.2 _ (by omega), w6.2 _ (by omega)]; exact a10
        · rw [tlz]
          have : SegAt vc2 vm2 10 (c + l.length + 1) (130 + (s + l.length)) l2 := seg_gen w5 (fun i hi => ⟨e8.2 _ (by omega), (e10 _).1, (e10 _).2⟩)
          exact this
        · rw [tlz, show c + (l.length + 1) + l2.length = c + l.length + 1 + l2.length by omega]
          exact e4
      · have hp'n := w2.2.2.1
        have b77 : vmb 77 1 = nI j := (w6 77 1 (by omega) (by omega) (by omega)).trans a77
        obtain ⟨vc2, vm2, e1, e2, e3, e4, e5, e6⟩ := bad_end w1 w2 (by omega) b77 (by omega)
        rw [e1, e2]
        exact ⟨vc2, vm2, rfl, rfl, Or.inr ⟨f, p', s', e3, e4, fc0_tr FCa.1 (fc0_tr w5 e5), fml0_tr FMa.1 (fml0_tr (fml0_of w6) e6)⟩⟩
    · -- no ?
      have cy : ¬ y = 63 := fun w => cq ((lr_eq lr (by decide) (by decide)).mpr w)
      rw [if_neg cq, Option.bind_some, if_neg cy]
      simp only [Bool.false_eq_true, if_false]
      obtain ⟨vc2, vm2, e1, e2, e3, e4, e5, e6, e7, e8, e9, e10⟩ := end_line g4 (by omega) (by omega) k77 (by omega)
      rw [e1, e2]
      have tlz : tl0 ([] : List Int32) = 0 := rfl
      refine ⟨vc2, vm2, rfl, rfl, Or.inl ⟨p1, [], l, g1, by rw [tlz]; omega, by simp; omega, ?_, ⟨g3 0, Or.inl rfl, ?_, ?_, ?_, fun q => absurd rfl q, ?_, ?_, trivial⟩, e6, fc_tr g6 e8 (by omega), fml_tr f0 (fml_tr (fml_of (j := j) g7) e9 (by omega) (Nat.le_refl _)) (Nat.le_refl _) (Nat.le_refl _)⟩⟩
      · rw [tlz]; exact e3
      · show vm2 78 (61 + j) = nI s
        rw [e7, g7.1 78 _ (by omega) (by omega) (by omega)]; exact h78
      · show vm2 79 (61 + j) = nI (s + 0 + l.length)
        rw [Nat.add_zero]; exact e5
      · intro i hi; exact absurd hi (by simp)
      · rw [tlz]
        have : SegAt vc2 vm2 10 c (130 + s) l := seg_gen g5 (fun i hi => ⟨e8.2 _ (by omega), (e10 _).1, (e10 _).2⟩)
        exact this
      · rw [tlz]; exact e4
  · have hp'n := g2.2.2.1
    have hfn := g2.2.2.2.2.1
    have k77 : vm1 77 1 = nI j := (g6 77 1 (by omega) (by omega) (by omega)).trans h770
    have mf : 0 ≤ vm1 63 18 := by rw [g2.2.2.2.1, tle, l0, tnI (by omega)]; omega
    rw [badC_pass g1 hfn hn (k := 63) (Or.inr (by decide)), Option.bind_some, if_pos mf]
    simp only [Bool.false_eq_true, if_false]
    obtain ⟨vc2, vm2, e1, e2, e3, e4, e5, e6⟩ := bad_end g1 g2 (by omega) k77 (by omega)
    rw [e1, e2]
    exact ⟨vc2, vm2, rfl, rfl, Or.inr ⟨f, p', s', e3, e4, fc0_tr g5 e5, fml0_tr f0.1 (fml0_tr (fml0_of g6) e6)⟩⟩
