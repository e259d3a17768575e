/-! laying: both -/
def tailLook (x1 r : Int32) (vm : VI) : Option (Int32 × VI) := if (vm 63 30) ≤ 0 then fX10_goLook_72 x1 r vm else if inb ((vm 63 30) - 1) 13 = true then if (vm 82 ((vm 63 30) - 1).toNatClampNeg) = x1 then if inb ((vm 63 30) - 1) 13 = true then (fX10_heldTo ((vm 83 ((vm 63 30) - 1).toNatClampNeg) + r)).bind fun r7 => if inb ((vm 63 30) - 1) 13 = true then some (r, (j_up vm 83 ((vm 63 30) - 1).toNatClampNeg r7)) else none else none else fX10_goLook_72 x1 r vm else none
theorem upper_eq {vc : VI} {o n : Nat} (hn : n ≤ 12) (h : vc o 2 = nI n) : fX3_uppermost o vc = some (if n = 0 then -2 else vc (o + 1) (n - 1)) := by
  unfold fX3_uppermost
  rw [tells_eq hn h, Option.bind_some, h]
  by_cases c : n = 0
  · subst c
    rw [if_pos (show (0 : Int32) = 0 from rfl), if_neg (by decide), if_pos rfl]
  · obtain ⟨k, rfl⟩ : ∃ k, n = k + 1 := ⟨n - 1, by omega⟩
    have e : (nI k).toInt = k := tnI (by omega)
    have hc : 0 ≤ (nI k).toInt ∧ (nI k).toInt < ((k + 1 : Nat) : Int) := by omega
    rw [nsub1 (by omega), if_pos hc, if_pos (show (0 : Int32) = 0 from rfl), if_neg (show ¬ k + 1 = 0 by omega), e]
    simp
/-- a new LAYER on top -/
theorem append_both {vc vm : VI} {o n one r : Nat} (h : DP vc o vm n) (hn : n < 12) (ho : one < 6) (h1 : 1 ≤ r) (h9 : r ≤ 99) : ∃ vc' vm', fX3_settle_72 o (nI one) (nI r) vc = some (nI r, vc') ∧ fX10_goLook_85 (nI one) (nI r) vm = some (nI r, vm') ∧ DP vc' o vm' (n + 1) ∧ vm' 82 n = nI one ∧ vm' 83 n = nI r ∧ (∀ a i, ¬ (a = o ∧ i = 2) → a ≠ o + 1 → a ≠ o + 2 → vc' a i = vc a i) ∧ ∀ a i, ¬ (a = 63 ∧ i = 30) → a ≠ 82 → a ≠ 83 → vm' a i = vm a i := by
  obtain ⟨g1, g2, g3, g4⟩ := h
  unfold fX3_settle_72 fX10_goLook_85
  have b12 : 0 ≤ (nI n).toInt ∧ (nI n).toInt < (12 : Nat) := by rw [tnI (by omega)]; omega
  have b13 : 0 ≤ (nI n).toInt ∧ (nI n).toInt < (13 : Nat) := by rw [tnI (by omega)]; omega
  have cn : (nI n).toNatClampNeg = n := nI_clamp (by omega)
  have s1 : ∀ x : Int32, (j_up vc (o + 1) n x) o 2 = nI n := fun x => by rw [up_o (by omega), g2]
  have s2 : ∀ x y : Int32, (j_up (j_up vc (o + 1) n x) (o + 2) n y) o 2 = nI n := fun x y => by rw [up_o (by omega), s1]
  have t1 : ∀ x : Int32, (j_up vm 82 n x) 63 30 = nI n := fun x => by rw [up_o (by omega), g3]
  have t2 : ∀ x y : Int32, (j_up (j_up vm 82 n x) 83 n y) 63 30 = nI n := fun x y => by rw [up_o (by omega), t1]
  simp only [g2, g3, cn, s1, s2, t1, t2, if_inb b12, if_inb b13, nI_1]
  refine ⟨_, _, rfl, rfl, ⟨by omega, up_s, up_s, fun k hk => ?_⟩, ?_, ?_, fun a i q1 q2 q3 => by rw [up_at, if_neg q1, up_o q3, up_o q2], fun a i q1 q2 q3 => by rw [up_at, if_neg q1, up_o q3, up_o q2]⟩
  · rw [up_o (show o + 1 ≠ o by omega), up_o (show o + 1 ≠ o + 2 by omega), up_o (show o + 2 ≠ o by omega), up_o (show (82 : Nat) ≠ 63 by decide), up_o (show (82 : Nat) ≠ 83 by decide), up_o (show (83 : Nat) ≠ 63 by decide)]
    by_cases c : k = n
    · subst c
      simp only [up_s]
      have e1 : (nI one).toInt = one := tnI (by omega)
      have e2 : (nI r).toInt = r := tnI (by omega)
      exact ⟨trivial, trivial, ⟨by omega, by omega⟩, ⟨by omega, by omega⟩⟩
    · simp only [up_i c]
      exact g4 k (by omega)
  · rw [up_o (by decide), up_o (by decide), up_s]
  · rw [up_o (by decide), up_s]
theorem settle_both {vc vm : VI} {o n one r : Nat} (h : DP vc o vm n) (ho : one < 6) (h1 : 1 ≤ r) (h9 : r ≤ 9) : ∃ g vc' vm' n', fX3_settle o (nI one) (nI r) vc = some (g, vc') ∧ tailLook (nI one) (nI r) vm = some (nI r, vm') ∧ DP vc' o vm' (n' + 1) ∧ vm' 83 n' - (if n ≠ 0 ∧ vm 82 (n - 1) = nI one then vm 83 (n - 1) else 0) = g ∧ rng g 0 9 ∧ (∀ a i, ¬ (a = o ∧ i = 2) → a ≠ o + 1 → a ≠ o + 2 → vc' a i = vc a i) ∧ ∀ a i, ¬ (a = 63 ∧ i = 30) → a ≠ 82 → a ≠ 83 → vm' a i = vm a i := by
  have er : (nI r).toInt = r := tnI (by omega)
  obtain ⟨g1, g2, g3, g4⟩ := h
  unfold fX3_settle tailLook
  rw [if_pos (by rw [tlt, l0]; omega), upper_eq g1 g2]
  simp only [Option.bind_some, g2, g3]
  -- when the uppermost is another's
  have other : (n = 0 ∨ vm 82 (n - 1) ≠ nI one) → ∃ g vc' vm' n', (if nI n < 12 then fX3_settle_72 o (nI one) (nI r) vc else (fX3_press o vc).bind fun r4 => fX3_settle_72 o (nI one) (nI r) r4) = some (g, vc') ∧ fX10_goLook_72 (nI one) (nI r) vm = some (nI r, vm') ∧ DP vc' o vm' (n' + 1) ∧ vm' 83 n' - (if n ≠ 0 ∧ vm 82 (n - 1) = nI one then vm 83 (n - 1) else 0) = g ∧ rng g 0 9 ∧ (∀ a i, ¬ (a = o ∧ i = 2) → a ≠ o + 1 → a ≠ o + 2 → vc' a i = vc a i) ∧ ∀ a i, ¬ (a = 63 ∧ i = 30) → a ≠ 82 → a ≠ 83 → vm' a i = vm a i := by
    intro hno
    have hz : ¬ (n ≠ 0 ∧ vm 82 (n - 1) = nI one) := fun q => by rcases hno with z | z; exact q.1 z; exact z q.2
    unfold fX10_goLook_72
    rw [g3, if_neg hz]
    have sub0 : (nI r - 0 : Int32) = nI r := by rw [teq, tsub (by rw [l0]; omega) (by rw [l0]; omega), l0]; omega
    by_cases c : n < 12
    · rw [if_pos (by rw [tlt, l12, tnI (by omega)]; omega), if_neg (by rw [teq, l12, tnI (by omega)]; omega)]
      obtain ⟨vc', vm', a1, a2, a3, a4, a5, a6, a7⟩ := append_both ⟨g1, g2, g3, g4⟩ c ho h1 (by omega)
      exact ⟨_, vc', vm', n, a1, a2, a3, by rw [a5, sub0], ⟨by omega, by omega⟩, a6, a7⟩
    · have : n = 12 := by omega
      subst this
      rw [if_neg (by decide), if_pos (show nI 12 = 12 from rfl)]
      obtain ⟨vc1, vm1, p1, p2, p3, p4, p5⟩ := press_both (vc := vc) (vm := vm) (o := o) ⟨g1, g2, g3, g4⟩
      rw [p1, p2]
      simp only [Option.bind_some]
      obtain ⟨vc', vm', a1, a2, a3, a4, a5, a6, a7⟩ := append_both p3 (by omega) ho h1 (by omega)
      exact ⟨_, vc', vm', 11, a1, a2, a3, by rw [a5, sub0], ⟨by omega, by omega⟩, fun a i q1 q2 q3 => (a6 a i q1 q2 q3).trans (p4 a i q1 q2 q3), fun a i q1 q2 q3 => (a7 a i q1 q2 q3).trans (p5 a i q1 q2 q3)⟩
  by_cases c0 : n = 0
  · subst c0
    rw [if_pos (show nI 0 ≤ 0 by decide)]
    have hne : ¬ (-2 = nI one) := by rw [teq, lm2, tnI (by omega)]; omega
    simp only [if_true, if_neg hne]
    exact other (Or.inl rfl)
  · obtain ⟨k, rfl⟩ : ∃ k, n = k + 1 := ⟨n - 1, by omega⟩
    have nle : ¬ nI (k + 1) ≤ 0 := by rw [tle, tnI (by omega), l0]; omega
    have bk : 0 ≤ (nI k).toInt ∧ (nI k).toInt < (12 : Nat) := by rw [tnI (by omega)]; omega
    have bk3 : 0 ≤ (nI k).toInt ∧ (nI k).toInt < (13 : Nat) := by rw [tnI (by omega)]; omega
    have ck : (nI k).toNatClampNeg = k := nI_clamp (by omega)
    obtain ⟨q1, q2, q3, q4⟩ := g4 k (by omega)
    simp only [if_neg nle, if_neg c0, nsub1 (show k < 100000 by omega), if_inb bk3, ck, heldTo_eq, Option.bind_some, show k + 1 - 1 = k from rfl]
    rw [q1]
    by_cases c : vm 82 k = nI one
    · have hyes : k + 1 ≠ 0 ∧ vm 82 k = nI one := ⟨by omega, c⟩
      simp only [if_pos c, if_inb bk]
      have e2 : ∀ x : Int32, (j_up vc (o + 2) k x) o 2 = nI (k + 1) := fun x => by rw [up_o (by omega), g2]
      rw [e2]
      simp only [nsub1 (show k < 100000 by omega), if_inb bk, ck, up_s, q2]
      rw [show (if 99 < vm 83 k + nI r then (99 : Int32) else vm 83 k + nI r) = cap99 (vm 83 k + nI r) from rfl]
      have crg := cap_rng q4 (b := nI r) ⟨by omega, by omega⟩
      refine ⟨_, _, _, k, rfl, rfl, ⟨g1, by rw [e2], by rw [up_o (by decide)]; exact g3, fun i hi => ?_⟩, ?_, ?_, fun a i w1 w2 w3 => up_o w3, fun a i w1 w2 w3 => up_o w3⟩
      · rw [up_o (show o + 1 ≠ o + 2 by omega), up_o (show (82 : Nat) ≠ 83 by decide)]
        by_cases ci : i = k
        · subst ci
          simp only [up_s]
          exact ⟨q1, trivial, q3, crg⟩
        · simp only [up_i ci]
          exact g4 i hi
      · rw [if_pos hyes, up_s]
      · obtain ⟨w1, w2⟩ := q4
        have es : (vm 83 k + nI r).toInt = (vm 83 k).toInt + r := by rw [tadd (by omega) (by omega), er]
        obtain ⟨x1, x2⟩ := crg
        have : (cap99 (vm 83 k + nI r) - vm 83 k).toInt = (cap99 (vm 83 k + nI r)).toInt - (vm 83 k).toInt := tsub (by omega) (by omega)
        unfold rng
        rw [this]
        have hc : (cap99 (vm 83 k + nI r)).toInt = if 99 < (vm 83 k).toInt + r then 99 else (vm 83 k).toInt + r := by
          unfold cap99
          simp only [tlt, l99, es]
          split
          · exact l99
          · exact es
        rw [hc]
        split <;> omega
    · simp only [if_neg c]
      exact other (Or.inr c)
