/-! READING A TEXT: all lines -/
theorem csz_app : ∀ (T : List (List Int32 × List Int32)) (t v : List Int32), csz (T ++ [(t, v)]) = csz T + (tl0 t + v.length + 1)
  | [], t, v => by simp [csz]
  | (a, b) :: T, t, v => by
    simp only [List.cons_append, csz]
    rw [csz_app T t v]; omega
theorem ssz_app : ∀ (T : List (List Int32 × List Int32)) (t v : List Int32), ssz (T ++ [(t, v)]) = ssz T + (t.length + v.length)
  | [], t, v => by simp [ssz]
  | (a, b) :: T, t, v => by
    simp only [List.cons_append, ssz]
    rw [ssz_app T t v]; omega
theorem lines_app {vc vm : VI} {ob r : Nat} {t v : List Int32} : ∀ (T : List (List Int32 × List Int32)) (j c s : Nat), linesAt vc vm ob r T j c s → linesAt vc vm ob r [(t, v)] (j + T.length) (c + csz T) (s + ssz T) → linesAt vc vm ob r (T ++ [(t, v)]) j c s
  | [], j, c, s, _, h => h
  | (a, b) :: T, j, c, s, h, g => by
    obtain ⟨a1, a2, a3, a4, a5, a6, a7, a8, a9⟩ := h
    refine ⟨a1, a2, a3, a4, a5, a6, a7, a8, lines_app T _ _ _ a9 ?_⟩
    simp only [List.length_cons, csz, ssz] at g
    rw [show j + 1 + T.length = j + (T.length + 1) by omega, show c + tl0 a + b.length + 1 + csz T = c + (tl0 a + b.length + 1 + csz T) by omega, show s + a.length + b.length + ssz T = s + (a.length + b.length + ssz T) by omega]
    exact g
def SL (n p : Nat) (vc0 vm0 vc vm : VI) (T : List (List Int32 × List Int32)) : Prop := T ≠ [] ∧ PS vc vm n p 0 (csz T) (ssz T) ∧ linesAt vc vm 10 1 T 0 0 0 ∧ vm 77 1 = nI T.length ∧ csz T ≤ p + 1 ∧ ssz T ≤ p ∧ 2 * T.length ≤ p + 1 ∧ FC0 vc0 vc ∧ FML0 vm0 vm
theorem next_line {n p : Nat} {vc0 vm0 vc vm : VI} {T : List (List Int32 × List Int32)} (hP : PS vc vm n p 0 (csz T) (ssz T)) (hl : linesAt vc vm 10 1 T 0 0 0) (h77 : vm 77 1 = nI T.length) (hc : csz T ≤ p) (hs : ssz T ≤ p) (hj : 2 * T.length ≤ p) (f1 : FC0 vc0 vc) (f2 : FML0 vm0 vm) : ∃ vc' vm', fX8_readLine vc = some vc' ∧ fX10_line vm = some vm' ∧ ((∃ p' T', p < p' ∧ SL n p' vc0 vm0 vc' vm' T' ∧ T'.length = T.length + 1) ∨ BadL n vc0 vm0 vc' vm') := by
  obtain ⟨vc', vm', e1, e2, e3⟩ := line_both hP hs hc h77 hj
  refine ⟨vc', vm', e1, e2, ?_⟩
  rcases e3 with ⟨p', t, v, g1, g2, g3, g4, g5, g6, g7, g8⟩ | ⟨f, p', s', g1, g2, g3, g4⟩
  · refine Or.inl ⟨p', T ++ [(t, v)], g1, ⟨by simp, ?_, ?_, ?_, ?_, ?_, ?_, fc0_tr f1 g7.1, fml0_tr f2 g8.1⟩, by simp⟩
    · rw [csz_app, ssz_app, show csz T + (tl0 t + v.length + 1) = csz T + tl0 t + v.length + 1 by omega, show ssz T + (t.length + v.length) = ssz T + t.length + v.length by omega]
      exact g4
    · refine lines_app T 0 0 0 (lines_gen T 0 0 0 (fun i _ hi => g7.2 i (by omega)) (fun k _ hk => ?_) (fun i _ hi => ?_) hl) ?_
      · exact g8.2.1 _ (by omega)
      · exact g8.2.2 _ (by omega)
      · rw [Nat.zero_add, Nat.zero_add, Nat.zero_add]; exact g5
    · rw [g6]; simp
    · rw [csz_app]; omega
    · rw [ssz_app]; omega
    · simp; omega
  · exact Or.inr ⟨f, p', s', g1, g2, fc0_tr f1 g3, fml0_tr f2 g4⟩
theorem badC_read {vc : VI} {n f k : Nat} (h : BadC vc n f) (hf : f ≤ n) (hn : n ≤ 120) (hk : k ≤ 100) (F : Nat) : ∃ vc', fX8_readInto_29 (F + 2) (nI k) vc = some (nI f, vc') ∧ FC0 vc vc' := by
  have done : ∀ (vc : VI) (k F : Nat), vc 3 3 = nI f → fX8_readInto_29 (F + 1) (nI k) vc = some (nI f, vc) := by
    intro vc k F e
    rw [fX8_readInto_29, e]
    split
    · rfl
    · rw [if_neg (by rw [teq, lm1, tnI (by omega)]; omega)]
  have hb := h
  obtain ⟨h1, h2, h3⟩ := h
  by_cases c : vc 3 3 = -1
  · rcases h3 with e | ⟨e1, e2, e3, e4, e5⟩
    · rw [c, teq, lm1, tnI (by omega)] at e; omega
    · refine ⟨j_up vc 3 3 (nI f), ?_, fun b i g1 g2 g3 => by rw [up_at, if_neg (by omega)]⟩
      rw [fX8_readInto_29, if_neg (by rw [tlt, l120, tnI (by omega)]; omega), if_pos c, h1, e2, if_neg (by rw [tle, tnI (by omega), tnI (by omega)]; omega), badC_pass hb hf hn (k := 59) (Or.inr (by decide)), Option.bind_some]
      simp only [Bool.false_eq_true, if_false]
      unfold fX8_readInto_78
      rw [e2, nI_1]
      exact done _ _ F up_s
  · rcases h3 with e | ⟨e1, -⟩
    · exact ⟨vc, done vc k (F + 1) e, fc0_rfl vc⟩
    · exact absurd e1 c
theorem read_loop {n : Nat} {vc0 vm0 : VI} : ∀ (m p : Nat) (T : List (List Int32 × List Int32)) (vc vm : VI), n - p < m → SL n p vc0 vm0 vc vm T → ∀ F F', m + 1 < F → m + 1 < F' → (∃ T' vc' vm', SL n n vc0 vm0 vc' vm' T' ∧ fX8_readInto_29 F (nI T.length) vc = some (-1, vc') ∧ fX10_readText_31 F' 0 vm = fX10_readText_86 0 vm') ∨ (∃ f vc' vm', f ≤ n ∧ fX8_readInto_29 F (nI T.length) vc = some (nI f, vc') ∧ fX10_readText_31 F' 0 vm = fX10_readText_86 0 vm' ∧ vm' 63 18 = nI f ∧ FC0 vc0 vc' ∧ FML0 vm0 vm') := by
  intro m
  induction m with
  | zero => intro p T vc vm h1; omega
  | succ m ih =>
    intro p T vc vm h1 hS F F' hF hF'
    obtain ⟨F, rfl⟩ : ∃ G, F = G + 3 := ⟨F - 3, by omega⟩
    obtain ⟨F', rfl⟩ : ∃ G, F' = G + 3 := ⟨F' - 3, by omega⟩
    have hS' := hS
    obtain ⟨z1, hP, z3, z4, z5, z6, z7, z8, z9⟩ := hS
    have hn : n ≤ 120 := hP.1.1
    have hpn := hP.2.1
    have h31 := hP.1.2.1
    have h16 := hP.1.2.2.1
    have h32 := hP.2.2.1
    have h33 := hP.2.2.2.1
    have h17 := hP.2.2.2.2.2.1
    have h18 := hP.2.2.2.2.2.2.1
    obtain ⟨x, y, lr, ly, lx, -, -, pass⟩ := letter hP
    have n120 : ¬ (120 : Int32) < nI T.length := by rw [tlt, l120, tnI (by omega)]; omega
    rw [fX8_readInto_29, fX10_readText_31, if_neg n120, if_pos h33, if_neg (nf h18), ly, Option.bind_some]
    by_cases c0 : p = n
    · -- the end
      have cx : x = -1 := by
        rcases lx with ⟨e, -⟩ | ⟨e, -, -⟩
        · exact e
        · omega
      have cy : ¬ y = 59 := fun w => by
        have := (lr_eq lr (k := 59) (by decide) (by decide)).mpr w
        rw [cx] at this
        exact absurd this (by decide)
      subst c0
      refine Or.inl ⟨T, vc, vm, hS', ?_, ?_⟩
      · rw [h31, h32, if_pos (by rw [tle]; omega), h33]
      · rw [if_neg cy]
        unfold fX10_readText_64
        rw [if_neg (nf h18), h16, h17, if_pos (by rw [tle]; omega)]
    · have nle : ¬ nI n ≤ nI p := by rw [tle, tnI (by omega), tnI (by omega)]; omega
      rw [h31, h32, if_neg nle, pass 59 (by decide)]
      by_cases cx : x = 59
      · have cy : y = 59 := (lr_eq lr (by decide) (by decide)).mp cx
        rw [if_pos cx, if_pos cy, Option.bind_some, h17, nI_1]
        simp only [if_true]
        obtain ⟨o1, o2, o3⟩ := go_on hP (by omega)
        have hl : linesAt (j_up vc 3 2 (nI (p + 1))) (j_up vm 63 17 (nI (p + 1))) 10 1 T 0 0 0 := lines_gen T 0 0 0 (fun i _ _ => up_o (by decide)) (fun k _ _ => ⟨up_o (by decide), up_o (by decide)⟩) (fun i _ _ => ⟨up_o (by decide), up_o (by decide)⟩) z3
        obtain ⟨vc1, vm1, r1, r2, r3⟩ := next_line (vc0 := vc0) (vm0 := vm0) o1 hl (by rw [up_o (by decide)]; exact z4) (by omega) (by omega) (by omega) (fc0_tr z8 o2.1) (fml0_tr z9 (fml0_of o3.1))
        rw [r1, Option.bind_some, r2, Option.bind_some]
        unfold fX8_readInto_78
        rw [nI_1]
        rcases r3 with ⟨p', T', g1, g2, g3⟩ | ⟨f, p', s', g1, g2, g3, g4⟩
        · rw [← g3]
          exact ih p' T' vc1 vm1 (by omega) g2 (F + 2) (F' + 2) (by omega) (by omega)
        · have hfn := g2.2.2.2.2.1
          obtain ⟨vc2, u1, u2⟩ := badC_read (k := T.length + 1) g1 hfn hn (by omega) F
          have mf : 0 ≤ vm1 63 18 := by rw [g2.2.2.2.1, tle, l0, tnI (by omega)]; omega
          refine Or.inr ⟨f, vc2, vm1, hfn, u1, ?_, g2.2.2.2.1, fc0_tr g3 u2, g4⟩
          rw [fX10_readText_31, if_pos mf]
          unfold fX10_readText_64
          rw [if_pos mf]
      · have cy : ¬ y = 59 := fun w => cx ((lr_eq lr (by decide) (by decide)).mpr w)
        rw [if_neg cx, if_neg cy, Option.bind_some]
        simp only [Bool.false_eq_true, if_false]
        unfold fX8_readInto_78
        rw [h32, nI_1]
        refine Or.inr ⟨p, j_up vc 3 3 (nI p), j_up vm 63 18 (nI p), hpn, ?_, ?_, up_s, fc0_tr z8 fun b i g1 g2 g3 => by rw [up_at, if_neg (by omega)], fml0_tr z9 fun b i g1 g2 g3 g4 g5 g6 => by rw [up_at, if_neg (by omega)]⟩
        · rw [fX8_readInto_29, up_s]
          split
          · rfl
          · rw [if_neg (by rw [teq, lm1, tnI (by omega)]; omega)]
        · unfold fX10_readText_64
          rw [if_neg (nf h18), h16, h17, if_neg nle]
          unfold fX10_wrong
          rw [if_neg (nf h18), h17, Option.bind_some]
theorem read_both {n : Nat} {vi vm : VI} (hT : TS vi vm n) : (∃ T vc' vm', SL n n vi vm vc' vm' T ∧ fX8_readInto vi = some (-1, vc') ∧ fX10_readText 0 vm = fX10_readText_86 0 vm') ∨ (∃ f vc' vm', f ≤ n ∧ fX8_readInto vi = some (nI f, vc') ∧ fX10_readText 0 vm = fX10_readText_86 0 vm' ∧ vm' 63 18 = nI f ∧ FC0 vi vc' ∧ FML0 vm vm') := by
  have hn : n ≤ 120 := hT.1
  obtain ⟨va, hva⟩ : ∃ va, va = j_up (j_up (j_up vi 9 1 0) 3 2 0) 3 3 (-1) := ⟨_, rfl⟩
  obtain ⟨ma, hma⟩ : ∃ ma, ma = j_up (j_up (j_up (j_up (j_up vm 63 17 0) 63 18 (-1)) 63 19 0) 63 20 0) 77 1 0 := ⟨_, rfl⟩
  have f1 : FC0 vi va := by
    rw [hva]
    exact fun b i g1 g2 g3 => by rw [up_at, if_neg (by omega), up_at, if_neg (by omega), up_at, if_neg g2]
  have f2 : FML0 vm ma := by
    rw [hma]
    exact fun b i g1 g2 g3 g4 g5 g6 => by rw [up_at, if_neg g4, up_at, if_neg (by omega), up_at, if_neg (by omega), up_at, if_neg (by omega), up_at, if_neg (by omega)]
  have P0 : PS va ma n 0 0 (csz []) (ssz []) := by
    refine ⟨ts_fl hT f1 f2, by omega, ?_, ?_, ?_, ?_, ?_, ?_, ?_⟩
    · rw [hva, up_i (by decide), up_s]; rfl
    · rw [hva, up_s]
    · rw [hva, up_o (by decide), up_o (by decide), up_s]; rfl
    · rw [hma, up_o (by decide), up_i (by decide), up_i (by decide), up_i (by decide), up_s]; rfl
    · rw [hma, up_o (by decide), up_i (by decide), up_i (by decide), up_s]
    · rw [hma, up_o (by decide), up_i (by decide), up_s]; rfl
    · rw [hma, up_o (by decide), up_s]; rfl
  obtain ⟨vc1, vm1, r1, r2, r3⟩ := next_line (T := []) P0 trivial (by rw [hma, up_s]; rfl) (Nat.zero_le _) (Nat.zero_le _) (Nat.zero_le _) f1 f2
  have z1 : (1 : Int32).toNatClampNeg = 1 := rfl
  unfold fX8_readInto fX10_readText
  rw [← hva, r1, Option.bind_some, z1, ← hma, r2, Option.bind_some]
  rcases r3 with ⟨p', T', g1, g2, g3⟩ | ⟨f, p', s', g1, g2, g3, g4⟩
  · have e1 : (1 : Int32) = nI T'.length := by rw [g3]; rfl
    have res := read_loop (n - p' + 1) p' T' vc1 vm1 (by omega) g2 FU FU (by rw [FU_eq]; omega) (by rw [FU_eq]; omega)
    rw [← e1] at res
    exact res
  · have hfn := g2.2.2.2.2.1
    have mf : 0 ≤ vm1 63 18 := by rw [g2.2.2.2.1, tle, l0, tnI (by omega)]; omega
    obtain ⟨vc2, u1, u2⟩ := badC_read (k := 1) g1 hfn hn (by omega) 99998
    refine Or.inr ⟨f, vc2, vm1, hfn, u1, ?_, g2.2.2.2.1, fc0_tr g3 u2, g4⟩
    obtain ⟨F, hF⟩ := FU_s
    rw [hF, fX10_readText_31, if_pos mf]
    unfold fX10_readText_64
    rw [if_pos mf]
