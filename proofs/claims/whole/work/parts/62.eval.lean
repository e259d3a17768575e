/-! EVALUATION: one step of a TEXT -/
theorem divm1 (a : Int32) : a / (-1) = -a := by
  rw [teq, Int32.toInt_div, lm1, Int32.toInt_neg]
  simp
theorem modm1 (a : Int32) : a - a / (-1) * (-1) = 0 := by
  rw [divm1]
  have : -a * -1 = a := by rw [Int32.neg_mul, Int32.mul_neg, Int32.mul_one, Int32.neg_neg]
  rw [this, Int32.sub_self]
def signs : List Nat := [37, 38, 42, 43, 45, 47, 60, 61, 62, 124]
def stepIs (c a w : Int32) : Prop := (0 ≤ c.toInt ∧ c.toInt < 10000 ∧ a = 1 ∧ w = c) ∨ (∃ q, q < 6 ∧ c = nI (10000 + q) ∧ a = 2 ∧ w = nI q) ∨ (c = 20033 ∧ a = 3) ∨ (c = 20126 ∧ a = 4) ∨ ∃ g, g ∈ signs ∧ c = nI (20000 + g) ∧ a = nI g
def hst (c : Int32) (h : Nat) : Option Nat := if c.toInt < 10006 then some (h + 1) else if c = 20033 ∨ c = 20126 then (if h = 0 then none else some h) else (if h < 2 then none else some (h - 1))
def hrun : List Int32 → Nat → Option Nat
  | [], h => some h
  | c :: l, h => (hst c h).bind fun h' => hrun l h'
theorem joins {g : Nat} (hg : g ∈ signs) (a b : Int32) : ∃ r, fX5_joined (nI (20000 + g) - 20000) a b = some r ∧ fX10_twoOf (nI g) a b = some r := by
  have e : (nI (20000 + g) - 20000 : Int32) = nI g := by
    have hg2 : g < 200 := by simp [signs] at hg; omega
    rw [teq, tsub (by rw [tnI (by omega), show (20000 : Int32).toInt = 20000 from rfl]; omega) (by rw [tnI (by omega), show (20000 : Int32).toInt = 20000 from rfl]; omega), tnI (by omega), tnI (by omega), show (20000 : Int32).toInt = 20000 from rfl]; omega
  rw [e]
  unfold fX5_joined fX10_twoOf fX5_joined_92 fX10_twoOf_226 fX10_twoOf_163
  simp only [signs, List.mem_cons, List.not_mem_nil, or_false] at hg
  rcases hg with rfl | rfl | rfl | rfl | rfl | rfl | rfl | rfl | rfl | rfl
  · simp (decide := true) only [if_false, if_true]
    by_cases c : b = 0
    · simp only [if_pos c]; exact ⟨_, rfl, rfl⟩
    · simp only [if_neg c]
      by_cases c2 : b = -1
      · simp only [if_pos c2]
        rw [c2, modm1]; exact ⟨_, rfl, rfl⟩
      · simp only [if_neg c2]; exact ⟨_, rfl, rfl⟩
  · simp (decide := true) only [if_false, if_true]
    by_cases c : a = 0 <;> by_cases c2 : b = 0 <;> simp only [c, c2, if_true, if_false] <;> exact ⟨_, rfl, rfl⟩
  · simp (decide := true) only [if_false, if_true]; exact ⟨_, rfl, rfl⟩
  · simp (decide := true) only [if_false, if_true]; exact ⟨_, rfl, rfl⟩
  · simp (decide := true) only [if_false, if_true]; exact ⟨_, rfl, rfl⟩
  · simp (decide := true) only [if_false, if_true]
    by_cases c : b = 0
    · simp only [if_pos c]; exact ⟨_, rfl, rfl⟩
    · simp only [if_neg c]
      by_cases c2 : b = -1
      · simp only [if_pos c2]
        rw [c2, divm1]; exact ⟨_, rfl, rfl⟩
      · simp only [if_neg c2]; exact ⟨_, rfl, rfl⟩
  · simp (decide := true) only [if_false, if_true]
    by_cases c : b ≤ a <;> simp only [c, if_true, if_false] <;> exact ⟨_, rfl, rfl⟩
  · simp (decide := true) only [if_false, if_true]
    by_cases c : a = b <;> simp only [c, if_true, if_false] <;> exact ⟨_, rfl, rfl⟩
  · simp (decide := true) only [if_false, if_true]
    by_cases c : a ≤ b <;> simp only [c, if_true, if_false] <;> exact ⟨_, rfl, rfl⟩
  · simp (decide := true) only [if_false, if_true]
    by_cases c : a = 0 <;> by_cases c2 : b = 0 <;> simp only [c, c2, if_true, if_false] <;> exact ⟨_, rfl, rfl⟩
/-- the stacks say the same -/
def Stk (vc vm : VI) (h : Nat) : Prop := vc 5 5 = nI h ∧ ∀ i, i < h → vc 8 i = vm 81 i
theorem push_eq {vc : VI} {h : Nat} (e : vc 5 5 = nI h) (hh : h < 121) (v : Int32) : fX5_push 5 v vc = some (j_up (j_up vc 8 h v) 5 5 (nI (h + 1))) := by
  unfold fX5_push
  rw [e, if_neg (by rw [tle, tnI (by omega), l121]; omega), if_inb (by rw [tnI (by omega)]; omega), nI_clamp (by omega)]
  show some (j_up (j_up vc 8 h v) 5 5 ((j_up vc 8 h v) 5 5 + 1)) = _
  rw [up_o (by decide), e, nI_1]
theorem pop_eq {vc : VI} {h : Nat} (e : vc 5 5 = nI (h + 1)) (hh : h < 121) : fX5_pop 5 vc = some (vc 8 h, j_up vc 5 5 (nI h)) := by
  unfold fX5_pop
  have ee : (nI (h + 1) - 1 : Int32) = nI h := by
    rw [teq, tsub (by rw [tnI (by omega), l1]; omega) (by rw [tnI (by omega), l1]; omega), tnI (by omega), l1, tnI (by omega)]; omega
  rw [e, if_pos (by rw [tlt, tnI (by omega), l0]; omega), ee, up_s, if_inb (by rw [tnI (by omega)]; omega), nI_clamp (by omega)]
  show some ((j_up vc 5 5 (nI h)) 8 h, _) = _
  rw [up_o (by decide)]
theorem nsub1 {h : Nat} (hh : h < 100000) : (nI (h + 1) - 1 : Int32) = nI h := by
  rw [teq, tsub (by rw [tnI (by omega), l1]; omega) (by rw [tnI (by omega), l1]; omega), tnI (by omega), l1, tnI (by omega)]; omega
theorem nadm1 {h : Nat} (hh : h < 100000) : (nI (h + 1) + -1 : Int32) = nI h := by
  rw [teq, tadd (by rw [tnI (by omega), lm1]; omega) (by rw [tnI (by omega), lm1]; omega), tnI (by omega), lm1, tnI (by omega)]; omega
theorem step_both {vc vm : VI} {c : Int32} {h h' r e q : Nat} (hs : Stk vc vm h) (hn : ∀ i, i < 6 → vc 7 i = vm 80 i) (hh : h < 121) (hr : r < 2) (hst' : hst c h = some h') (hq : q < 260) (he : q < 130 * r + e) (he2 : e ≤ 130) (hi : stepIs c (vm 75 q) (vm 76 q)) : ∃ vc', fX5_work 5 c vc = some vc' ∧ (∀ o i, ¬ (o = 5 ∧ i = 5) → o ≠ 8 → vc' o i = vc o i) ∧ ∃ vm', (∀ F, fX10_worked_12 (F + 1) (nI r) (nI e) (nI h) (nI q) vm = fX10_worked_12 F (nI r) (nI e) (nI h') (nI (q + 1)) vm') ∧ (∀ o i, o ≠ 81 → vm' o i = vm o i) ∧ Stk vc' vm' h' := by
  obtain ⟨s1, s2⟩ := hs
  have e130 : (130 * nI r + nI e : Int32) = nI (130 * r + e) := by rw [show (130 : Int32) = nI 130 from rfl, pk_mul, nI_add]
  have nle : ¬ nI (130 * r + e) ≤ nI q := by rw [tle, tnI (by omega), tnI (by omega)]; omega
  have bq : 0 ≤ (nI q).toInt ∧ (nI q).toInt < (260 : Nat) := by rw [tnI (by omega)]; omega
  have bh : 0 ≤ (nI h).toInt ∧ (nI h).toInt < (130 : Nat) := by rw [tnI (by omega)]; omega
  have hcq : (nI q).toNatClampNeg = q := nI_clamp (by omega)
  have hch : (nI h).toNatClampNeg = h := nI_clamp (by omega)
  unfold hst at hst'
  unfold fX5_work
  rcases hi with ⟨c0, c1, a1, w1⟩ | ⟨n, hn6, rfl, a1, w1⟩ | ⟨rfl, a1⟩ | ⟨rfl, a1⟩ | ⟨g, hg, rfl, a1⟩
  · rw [if_pos (by omega)] at hst'
    have := Option.some.inj hst'; subst this
    rw [if_neg (by rw [tle]; show ¬ (10000 : Int) ≤ _; omega), push_eq s1 hh]
    refine ⟨_, rfl, fun o i q1 q2 => by rw [up_at, if_neg q1, up_o q2], j_up vm 81 h c, fun F => ?_, fun o i q1 => up_o q1, up_s, fun i hi => ?_⟩
    · rw [fX10_worked_12, e130, if_neg nle, if_inb bq, hcq, a1, if_pos rfl]
      unfold fX10_worked_45 fX10_worked_79 fX10_worked_182
      rw [if_pos rfl, if_inb bq, hcq, w1, if_inb bh, hch, nI_1, nI_1]
    · rw [up_o (by decide), up_at, up_at]
      by_cases k : i = h
      · rw [if_pos ⟨rfl, k⟩, if_pos ⟨rfl, k⟩]
      · rw [if_neg (fun z => k z.2), if_neg (fun z => k z.2)]; exact s2 i (by omega)
  · rw [if_pos (by rw [tnI (by omega)]; omega)] at hst'
    have := Option.some.inj hst'; subst this
    have ec : (nI (10000 + n) - 10000 : Int32) = nI n := by
      rw [teq, tsub (by rw [tnI (by omega), show (10000 : Int32).toInt = 10000 from rfl]; omega) (by rw [tnI (by omega), show (10000 : Int32).toInt = 10000 from rfl]; omega), tnI (by omega), tnI (by omega), show (10000 : Int32).toInt = 10000 from rfl]; omega
    rw [if_pos (by rw [tle, tnI (by omega)]; show (10000 : Int) ≤ _; omega), if_neg (by rw [tle, tnI (by omega)]; show ¬ (10006 : Int) ≤ _; omega), ec, if_inb (by rw [tnI (by omega)]; omega), nI_clamp (by omega), push_eq s1 hh]
    refine ⟨_, rfl, fun o i q1 q2 => by rw [up_at, if_neg q1, up_o q2], j_up vm 81 h (vm 80 n), fun F => ?_, fun o i q1 => up_o q1, up_s, fun i hi => ?_⟩
    · rw [fX10_worked_12, e130, if_neg nle, if_inb bq, hcq, a1, if_neg (by decide), if_pos rfl]
      unfold fX10_worked_45 fX10_worked_79 fX10_worked_182
      rw [if_neg (by decide), if_inb bq, hcq, w1, if_inb (by rw [tnI (by omega)]; omega), nI_clamp (show n < 2 ^ 31 by omega), if_inb bh, hch, nI_1, nI_1]
    · rw [up_o (by decide), up_at, up_at]
      by_cases k : i = h
      · rw [if_pos ⟨rfl, k⟩, if_pos ⟨rfl, k⟩]; exact hn n hn6
      · rw [if_neg (fun z => k z.2), if_neg (fun z => k z.2)]; exact s2 i (by omega)
  · rw [if_neg (by decide), if_pos (Or.inl rfl)] at hst'
    obtain ⟨k, rfl⟩ : ∃ k, h = k + 1 := ⟨h - 1, by cases h with | zero => simp at hst' | succ n => omega⟩
    rw [if_neg (by omega)] at hst'
    have := Option.some.inj hst'; subst this
    rw [if_pos (by decide), if_pos (by decide), if_neg (by decide), if_pos rfl, pop_eq s1 (by omega)]
    simp only [Option.bind_some]
    unfold fX5_work_78
    rw [push_eq (h := k) up_s (by omega), push_eq (h := k) up_s (by omega)]
    simp only [Option.bind_some]
    have bk : 0 ≤ (nI k).toInt ∧ (nI k).toInt < (130 : Nat) := by rw [tnI (by omega)]; omega
    refine ⟨j_up (j_up (j_up vc 5 5 (nI k)) 8 k (if vc 8 k = 0 then 1 else 0)) 5 5 (nI (k + 1)), by split <;> rfl, fun o i q1 q2 => by rw [up_at, if_neg q1, up_o q2, up_at, if_neg q1], j_up vm 81 k (if vm 81 k = 0 then 1 else 0), fun F => ?_, fun o i q1 => up_o q1, up_s, fun i hi => ?_⟩
    · rw [fX10_worked_12, e130, if_neg nle, if_inb bq, hcq, a1, if_neg (by decide), if_neg (by decide), if_pos rfl, nsub1 (by omega), if_inb bk, nI_clamp (by omega)]
      unfold fX10_worked_117 fX10_worked_182
      rw [if_inb bk, if_inb bk, nI_clamp (by omega), nI_1]
      split <;> rfl
    · by_cases z : i = k
      · rw [z, up_o (by decide), up_s, up_s, s2 k (by omega)]
      · rw [up_o (by decide), up_i z, up_o (by decide), up_i z]; exact s2 i (by omega)
  · rw [if_neg (by decide), if_pos (Or.inr rfl)] at hst'
    obtain ⟨k, rfl⟩ : ∃ k, h = k + 1 := ⟨h - 1, by cases h with | zero => simp at hst' | succ n => omega⟩
    rw [if_neg (by omega)] at hst'
    have := Option.some.inj hst'; subst this
    rw [if_pos (by decide), if_pos (by decide), if_pos rfl, pop_eq s1 (by omega)]
    simp only [Option.bind_some]
    rw [push_eq (h := k) up_s (by omega)]
    simp only [Option.bind_some]
    have bk : 0 ≤ (nI k).toInt ∧ (nI k).toInt < (130 : Nat) := by rw [tnI (by omega)]; omega
    refine ⟨_, rfl, fun o i q1 q2 => by rw [up_at, if_neg q1, up_o q2, up_at, if_neg q1], j_up vm 81 k (-(vm 81 k)), fun F => ?_, fun o i q1 => up_o q1, up_s, fun i hi => ?_⟩
    · rw [fX10_worked_12, e130, if_neg nle, if_inb bq, hcq, a1, if_neg (by decide), if_neg (by decide), if_neg (by decide), if_pos rfl, nsub1 (by omega), if_inb bk, if_inb bk, nI_clamp (by omega)]
      unfold fX10_worked_182
      rw [nI_1]
    · by_cases z : i = k
      · rw [z, up_o (by decide), up_s, up_s, s2 k (by omega)]
      · rw [up_o (by decide), up_i z, up_o (by decide), up_i z]; exact s2 i (by omega)
  · have hg2 : 37 ≤ g ∧ g < 125 ∧ g ≠ 33 ∧ g ≠ 126 := by simp [signs] at hg; omega
    have eg : (nI (20000 + g)).toInt = 20000 + g := by rw [tnI (by omega)]; omega
    have ega : (nI g).toInt = g := tnI (by omega)
    rw [if_neg (by omega), if_neg (by rw [teq, teq, eg, show (20033 : Int32).toInt = 20033 from rfl, show (20126 : Int32).toInt = 20126 from rfl]; omega)] at hst'
    obtain ⟨k, rfl⟩ : ∃ k, h = k + 2 := ⟨h - 2, by
      by_cases z : h < 2
      · rw [if_pos z] at hst'; cases hst'
      · omega⟩
    rw [if_neg (by omega)] at hst'
    have := Option.some.inj hst'; subst this
    rw [if_pos (by rw [tle, eg]; show (10000 : Int) ≤ _; omega), if_pos (by rw [tle, eg]; show (10006 : Int) ≤ _; omega), if_neg (by rw [teq, eg, show (20126 : Int32).toInt = 20126 from rfl]; omega), if_neg (by rw [teq, eg, show (20033 : Int32).toInt = 20033 from rfl]; omega), pop_eq (h := k + 1) s1 (by omega)]
    simp only [Option.bind_some]
    rw [pop_eq (h := k) up_s (by omega)]
    simp only [Option.bind_some]
    rw [up_o (show (8 : Nat) ≠ 5 by decide)]
    obtain ⟨v, j1, j2⟩ := joins hg (vc 8 k) (vc 8 (k + 1))
    rw [j1]
    simp only [Option.bind_some]
    rw [push_eq (h := k) up_s (by omega)]
    have bk : 0 ≤ (nI k).toInt ∧ (nI k).toInt < (130 : Nat) := by rw [tnI (by omega)]; omega
    have bk1 : 0 ≤ (nI (k + 1)).toInt ∧ (nI (k + 1)).toInt < (130 : Nat) := by rw [tnI (by omega)]; omega
    refine ⟨_, rfl, fun o i q1 q2 => by rw [up_at, if_neg q1, up_o q2, up_at, if_neg q1, up_at, if_neg q1], j_up vm 81 k v, fun F => ?_, fun o i q1 => up_o q1, up_s, fun i hi => ?_⟩
    · rw [fX10_worked_12, e130, if_neg nle, if_inb bq, hcq, a1, if_neg (by rw [teq, ega, l1]; omega), if_neg (by rw [teq, ega, l2]; omega), if_neg (by rw [teq, ega, l3]; omega), if_neg (by rw [teq, ega, l4]; omega), nadm1 (h := k + 1) (by omega), nsub1 (h := k) (by omega), if_inb bk, if_inb bk1, nI_clamp (by omega), nI_clamp (by omega), ← s2 k (by omega), ← s2 (k + 1) (by omega), j2]
      simp only [Option.bind_some]
      rw [if_inb bk]
      unfold fX10_worked_182
      rw [nI_1]; rfl
    · by_cases z : i = k
      · rw [z, up_o (by decide), up_s, up_s]
      · rw [up_o (by decide), up_i z, up_o (by decide), up_o (by decide), up_i z]; exact s2 i (by omega)
