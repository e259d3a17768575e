/-! THE PURE HALF: what the class's functions and the model's say of one picture -/
theorem up_s {α : Type} {f : Nat → Nat → α} {o i : Nat} {x : α} : j_up f o i x o i = x := if_pos ⟨rfl, rfl⟩
theorem up_o {α : Type} {f : Nat → Nat → α} {o i a b : Nat} {x : α} (h : a ≠ o) : j_up f o i x a b = f a b := if_neg fun q => h q.1
theorem up_i {α : Type} {f : Nat → Nat → α} {o i a b : Nat} {x : α} (h : b ≠ i) : j_up f o i x a b = f a b := if_neg fun q => h q.2
theorem up_at {α : Type} (f : Nat → Nat → α) (o i : Nat) (x : α) (a b : Nat) : j_up f o i x a b = if a = o ∧ b = i then x else f a b := rfl
def rng (x : Int32) (lo hi : Int) : Prop := lo ≤ x.toInt ∧ x.toInt ≤ hi
theorem tlt {x y : Int32} : x < y ↔ x.toInt < y.toInt := Int32.lt_iff_toInt_lt
theorem tle {x y : Int32} : x ≤ y ↔ x.toInt ≤ y.toInt := Int32.le_iff_toInt_le
theorem teq {x y : Int32} : x = y ↔ x.toInt = y.toInt := Int32.toInt_inj.symm
theorem tn {x : Int32} : x.toNatClampNeg = x.toInt.toNat := rfl
theorem tlo (x : Int32) : -2147483648 ≤ x.toInt := by have := Int32.le_toInt x; simpa using this
theorem thi (x : Int32) : x.toInt ≤ 2147483647 := by have := Int32.toInt_lt x; simp at this; omega
theorem tadd {x y : Int32} (h1 : -2147483648 ≤ x.toInt + y.toInt) (h2 : x.toInt + y.toInt ≤ 2147483647) : (x + y).toInt = x.toInt + y.toInt := by
  rw [Int32.toInt_add, Int.bmod_eq_of_le (by omega) (by omega)]
theorem tsub {x y : Int32} (h1 : -2147483648 ≤ x.toInt - y.toInt) (h2 : x.toInt - y.toInt ≤ 2147483647) : (x - y).toInt = x.toInt - y.toInt := by
  rw [Int32.toInt_sub, Int.bmod_eq_of_le (by omega) (by omega)]
theorem tmul {x y : Int32} (h1 : -2147483648 ≤ x.toInt * y.toInt) (h2 : x.toInt * y.toInt ≤ 2147483647) : (x * y).toInt = x.toInt * y.toInt := by
  rw [Int32.toInt_mul, Int.bmod_eq_of_le (by omega) (by omega)]
theorem tnI {n : Nat} (h : n < 2147483648) : (nI n).toInt = n := nI_toInt (by omega)
theorem inb_t {x : Int32} {n : Nat} (h : 0 ≤ x.toInt ∧ x.toInt < n) : inb x n = true := by simp [inb, h]
theorem if_inb {α : Type} {x : Int32} {n : Nat} {a b : α} (h : 0 ≤ x.toInt ∧ x.toInt < n) : (if inb x n = true then a else b) = a := if_pos (inb_t h)
theorem l0 : (0 : Int32).toInt = 0 := rfl
theorem l1 : (1 : Int32).toInt = 1 := rfl
theorem l2 : (2 : Int32).toInt = 2 := rfl
theorem l3 : (3 : Int32).toInt = 3 := rfl
theorem l4 : (4 : Int32).toInt = 4 := rfl
theorem l5 : (5 : Int32).toInt = 5 := rfl
theorem l6 : (6 : Int32).toInt = 6 := rfl
theorem l7 : (7 : Int32).toInt = 7 := rfl
theorem l8 : (8 : Int32).toInt = 8 := rfl
theorem l9 : (9 : Int32).toInt = 9 := rfl
theorem l10 : (10 : Int32).toInt = 10 := rfl
theorem l12 : (12 : Int32).toInt = 12 := rfl
theorem l13 : (13 : Int32).toInt = 13 := rfl
theorem l20 : (20 : Int32).toInt = 20 := rfl
theorem l24 : (24 : Int32).toInt = 24 := rfl
theorem l39 : (39 : Int32).toInt = 39 := rfl
theorem l40 : (40 : Int32).toInt = 40 := rfl
theorem l48 : (48 : Int32).toInt = 48 := rfl
theorem l49 : (49 : Int32).toInt = 49 := rfl
theorem l50 : (50 : Int32).toInt = 50 := rfl
theorem l57 : (57 : Int32).toInt = 57 := rfl
theorem l58 : (58 : Int32).toInt = 58 := rfl
theorem l59 : (59 : Int32).toInt = 59 := rfl
theorem l60 : (60 : Int32).toInt = 60 := rfl
theorem l63 : (63 : Int32).toInt = 63 := rfl
theorem l64 : (64 : Int32).toInt = 64 := rfl
theorem l65 : (65 : Int32).toInt = 65 := rfl
theorem l98 : (98 : Int32).toInt = 98 := rfl
theorem l99 : (99 : Int32).toInt = 99 := rfl
theorem l100 : (100 : Int32).toInt = 100 := rfl
theorem l120 : (120 : Int32).toInt = 120 := rfl
theorem l121 : (121 : Int32).toInt = 121 := rfl
theorem l255 : (255 : Int32).toInt = 255 := rfl
theorem l360 : (360 : Int32).toInt = 360 := rfl
theorem lm1 : (-1 : Int32).toInt = -1 := rfl
theorem lm2 : (-2 : Int32).toInt = -2 := rfl
theorem lm3 : (-3 : Int32).toInt = -3 := rfl
theorem lm5 : (-5 : Int32).toInt = -5 := rfl
theorem lm11 : (-11 : Int32).toInt = -11 := rfl
theorem lm12 : (-12 : Int32).toInt = -12 := rfl
theorem lm13 : (-13 : Int32).toInt = -13 := rfl
theorem lm14 : (-14 : Int32).toInt = -14 := rfl
/-- whether lo ≤ x ≤ hi -/
theorem within_eq (x m : Int32) : fX9_isWithin x m = some (decide (0 ≤ x.toInt ∧ x.toInt ≤ m.toInt)) := by
  unfold fX9_isWithin
  simp only [tlt, show (0 : Int32).toInt = 0 from rfl]
  split
  · simp; omega
  · split
    · simp; omega
    · simp; omega
theorem in_eq (x lo hi : Int32) : fX10_in x lo hi = some (decide (lo.toInt ≤ x.toInt ∧ x.toInt ≤ hi.toInt)) := by
  unfold fX10_in
  simp only [tlt]
  split
  · simp; omega
  · split
    · simp; omega
    · simp; omega
theorem shelf9_eq (x : Int32) : fX9_isShelf x = some (decide (0 ≤ x.toInt ∧ x.toInt ≤ 5)) := by
  unfold fX9_isShelf
  rw [within_eq]; rfl
theorem shelf10_eq (x : Int32) : fX10_isShelf x = some (decide (0 ≤ x.toInt ∧ x.toInt ≤ 5)) := by
  unfold fX10_isShelf
  rw [in_eq]; rfl
theorem one9_eq (x : Int32) : fX9_isOne x = some (decide (0 ≤ x.toInt ∧ x.toInt ≤ 5)) := by
  unfold fX9_isOne
  rw [within_eq]; rfl
theorem one10_eq (x : Int32) : fX10_isPerson x = some (decide (0 ≤ x.toInt ∧ x.toInt ≤ 5)) := by
  unfold fX10_isPerson
  rw [in_eq]; rfl
theorem looking9_eq (x : Int32) : fX9_isLooking x = some (decide (0 ≤ x.toInt ∧ x.toInt ≤ 65)) := by
  unfold fX9_isLooking
  rw [within_eq]; rfl
/-! LED, BODIES, TRACE -/
def I_led (vi : VI) : Prop := ∀ k, k < 5 → vi 23 k = vi 87 k
def I_body (vi : VI) : Prop := ∃ n : Nat, n ≤ 50 ∧ vi 47 1 = nI n ∧ vi 63 45 = nI n ∧ (∀ k, k < n → vi 48 k = vi 92 k ∧ rng (vi 92 k) 0 7)
def I_trace (vi : VI) : Prop := ∃ n : Nat, n ≤ 1000 ∧ vi 47 3 = nI n ∧ vi 63 47 = nI n ∧ ∀ k, k < n → k < 24 → vi 49 k = vi 93 k
theorem p_led {vi : VI} (h : I_led vi) (x : Int32) : ∃ r, fX9_led x vi = some r ∧ fX10_led x vi = some r := by
  unfold fX9_led fX10_led
  rw [within_eq, in_eq]
  simp only [Option.bind_some, show (4 : Int32).toInt = 4 from rfl, show (0 : Int32).toInt = 0 from rfl]
  by_cases c : 0 ≤ x.toInt ∧ x.toInt ≤ 4
  · simp only [c, decide_true, and_self, if_true]
    rw [if_inb (by omega), if_inb (by omega)]
    exact ⟨_, rfl, by rw [h _ (by rw [tn]; omega)]⟩
  · simp only [c, decide_false]
    exact ⟨_, rfl, rfl⟩
theorem p_trace {vi : VI} (h : I_trace vi) (x : Int32) : ∃ r, fX9_trace x vi = some r ∧ fX10_trace x vi = some r := by
  obtain ⟨n, hn, h1, h2, h3⟩ := h
  unfold fX9_trace fX10_trace
  rw [h1, h2]
  simp only [tlt, tle, tnI (show n < 2147483648 by omega), show (24 : Int32).toInt = 24 from rfl, show (0 : Int32).toInt = 0 from rfl]
  by_cases c1 : x.toInt < 0
  · simp only [c1, if_true]; exact ⟨_, rfl, rfl⟩
  · by_cases c2 : 24 ≤ x.toInt
    · by_cases c3 : (n : Int) ≤ x.toInt <;> simp only [c1, c2, c3, if_true, if_false] <;> exact ⟨_, rfl, rfl⟩
    · by_cases c3 : (n : Int) ≤ x.toInt
      · simp only [c1, c2, c3, if_true, if_false]; exact ⟨_, rfl, rfl⟩
      · simp only [c1, c2, c3, if_false]
        rw [if_inb (by omega), if_inb (by omega)]
        exact ⟨_, rfl, by rw [h3 _ (by rw [tn]; omega) (by rw [tn]; omega)]⟩
theorem p_body {vi : VI} (h : I_body vi) (x : Int32) : ∃ r vi1, fX9_body x vi = some (r, vi1) ∧ ∃ vi2, fX10_body x vi1 = some (r, vi2) ∧ I_body vi2 ∧ ∀ o i, o ≠ 48 → o ≠ 92 → ¬ (o = 47 ∧ i = 1) → ¬ (o = 63 ∧ i = 45) → vi2 o i = vi o i := by
  obtain ⟨n, hn, h1, h2, h3⟩ := h
  unfold fX9_body
  rw [within_eq]
  simp only [Option.bind_some, show (7 : Int32).toInt = 7 from rfl]
  by_cases c : 0 ≤ x.toInt ∧ x.toInt ≤ 7
  · simp only [c, decide_true, and_self, if_true]
    unfold fX0_add
    rw [h1]
    simp only [tlt, tnI (show n < 2147483648 by omega), show (50 : Int32).toInt = 50 from rfl]
    by_cases c2 : (n : Int) < 50
    · simp only [c2, if_true]
      rw [if_inb (by rw [tnI (by omega)]; omega)]
      simp only [Option.bind_some]
      refine ⟨_, _, rfl, ?_⟩
      unfold fX10_body
      rw [in_eq]
      simp only [Option.bind_some, show (7 : Int32).toInt = 7 from rfl, show (0 : Int32).toInt = 0 from rfl, c, decide_true, and_self, if_true]
      have e45 : ∀ (a b : Int32) (q : Nat), (j_up (j_up vi 48 q a) 47 1 b) 63 45 = nI n := by intro a b q; rw [up_o (by decide), up_o (by decide), h2]
      simp only [e45, nI_clamp (show n < 2 ^ 31 by omega)]
      rw [if_neg (by rw [teq, tnI (by omega)]; show ¬ (n : Int) = 50; omega), if_inb (by rw [tnI (by omega)]; omega)]
      refine ⟨j_up (j_up (j_up (j_up vi 48 n x) 47 1 (nI n + 1)) 92 n x) 63 45 (nI n + 1), ?_, ?_, ?_⟩
      · simp [up_at, h1, h2]
      · refine ⟨n + 1, by omega, by simp [up_at, nI_1], by simp [up_at, nI_1], ?_⟩
        intro k hk
        by_cases hkn : k = n
        · simp [up_at, rng, c, hkn]
        · simp [up_at, hkn]; exact h3 k (by omega)
      · intro o i g1 g2 g3 g4
        rw [up_at, if_neg g4, up_o g2, up_at, if_neg g3, up_o g1]
    · have hn50 : n = 50 := by omega
      subst hn50
      simp only [c2, if_false, Option.bind_some]
      refine ⟨_, _, rfl, vi, ?_, ⟨50, by omega, h1, h2, h3⟩, fun _ _ _ _ _ _ => rfl⟩
      unfold fX10_body
      rw [in_eq, h2]
      simp only [Option.bind_some, show (7 : Int32).toInt = 7 from rfl, show (0 : Int32).toInt = 0 from rfl, c, decide_true, and_self, if_true]
      rw [if_pos (by rfl)]
  · simp only [c, decide_false]
    refine ⟨_, _, rfl, vi, ?_, ⟨n, hn, h1, h2, h3⟩, fun _ _ _ _ _ _ => rfl⟩
    unfold fX10_body
    rw [in_eq]
    simp only [Option.bind_some, show (7 : Int32).toInt = 7 from rfl, show (0 : Int32).toInt = 0 from rfl, c, decide_false]
    rfl
