/-! Days: the three counters hold the sum -/
def c0 (A : Nat → Nat → Nat) (ex : Nat → Bool) (m c : Nat) : Nat := if ex c = true then 0 else if A m c = 0 then 1 else 0
def cT (wh : Nat → Nat) (A : Nat → Nat → Nat) (ex : Nat → Bool) (m a c : Nat) : Nat := if ex c = true then 0 else if A m c ≠ 0 ∧ A m c = a ∧ (0 < m ∧ wh (m - 1) = c / 10) then 1 else 0
def cB (wh : Nat → Nat) (A : Nat → Nat → Nat) (ex : Nat → Bool) (N m a c : Nat) : Nat := if ex c = true then 0 else if A m c ≠ 0 ∧ A m c = a ∧ ¬ (0 < m ∧ wh (m - 1) = c / 10) ∧ m < N ∧ wh m = c / 10 then 1 else 0
def lk (wh th : Nat → Nat) (A : Nat → Nat → Nat) (ex : Nat → Bool) (N m p a c : Nat) : Nat := if p + a ≤ sm th m then cT wh A ex m a c else if m < N ∧ p = sm th m ∧ p + a ≤ sm th (m + 1) then cB wh A ex N m a c else 0
def LK (wh th : Nat → Nat) (A : Nat → Nat → Nat) (ex : Nat → Bool) (N m p a : Nat) : Nat := if p + a ≤ sm th m then sm (cT wh A ex m a) 60 else if m < N ∧ p = sm th m ∧ p + a ≤ sm th (m + 1) then sm (cB wh A ex N m a) 60 else 0
theorem LK_eq {wh th A ex N m p a} : LK wh th A ex N m p a = sm (lk wh th A ex N m p a) 60 := by
  unfold LK
  by_cases h1 : p + a ≤ sm th m
  · rw [if_pos h1]; exact sm_congr fun c _ => (if_pos h1).symm
  · rw [if_neg h1]
    by_cases h2 : m < N ∧ p = sm th m ∧ p + a ≤ sm th (m + 1)
    · rw [if_pos h2]; exact sm_congr fun c _ => ((if_neg h1).trans (if_pos h2)).symm
    · rw [if_neg h2]; exact (sm_zero fun c _ => (if_neg h1).trans (if_neg h2)).symm
theorem lk_ex {wh th A ex N m p a c} (h : ex c = true) : lk wh th A ex N m p a c = 0 := by
  unfold lk cT cB
  rw [if_pos h, if_pos h]
  by_cases h1 : p + a ≤ sm th m
  · rw [if_pos h1]
  · rw [if_neg h1]
    by_cases h2 : m < N ∧ p = sm th m ∧ p + a ≤ sm th (m + 1)
    · rw [if_pos h2]
    · rw [if_neg h2]
theorem lk_ne {wh th A ex N m p a c} (h : A m c ≠ a ∨ A m c = 0) : lk wh th A ex N m p a c = 0 := by
  have t : cT wh A ex m a c = 0 := by
    unfold cT
    by_cases e : ex c = true
    · rw [if_pos e]
    · rw [if_neg e, if_neg (by omega)]
  have b : cB wh A ex N m a c = 0 := by
    unfold cB
    by_cases e : ex c = true
    · rw [if_pos e]
    · rw [if_neg e, if_neg (by omega)]
  unfold lk
  rw [t, b]
  by_cases h1 : p + a ≤ sm th m
  · rw [if_pos h1]
  · rw [if_neg h1]
    by_cases h2 : m < N ∧ p = sm th m ∧ p + a ≤ sm th (m + 1)
    · rw [if_pos h2]
    · rw [if_neg h2]
theorem one_mul' (x : Nat) : 1 * x = x := Nat.one_mul x
theorem wy_one {wh th A ex N l m t c} (V : Nat → Nat) (hA : A m c ≤ 9) (hv : Vd th N m t) (hV : ∀ m' t', Vd th N m' t' → wy wh th A ex N N l m' t' = V (Pl th m' t')) : (if ex c = true then 0 else (nx wh th A N c m t).elim 0 fun s => wy wh th A ex N N l s.1 s.2) = c0 A ex m c * V (Pl th m t) + sm (fun i => lk wh th A ex N m (Pl th m t) (i + 1) c * V (Pl th m t + (i + 1))) 9 := by
  by_cases e : ex c = true
  · rw [if_pos e]
    have a : c0 A ex m c = 0 := if_pos e
    rw [a, sm_zero fun i _ => by show lk wh th A ex N m (Pl th m t) (i + 1) c * _ = 0; rw [lk_ex e, Nat.zero_mul], Nat.zero_mul]
  · rw [if_neg e]
    by_cases z : A m c = 0
    · have a : c0 A ex m c = 1 := (if_neg e).trans (if_pos z)
      have n : nx wh th A N c m t = some (m, t) := if_pos z
      rw [a, n, sm_zero fun i _ => by show lk wh th A ex N m (Pl th m t) (i + 1) c * _ = 0; rw [lk_ne (Or.inr z), Nat.zero_mul], Nat.one_mul]
      exact hV m t hv
    · have a : c0 A ex m c = 0 := (if_neg e).trans (if_neg z)
      have o : sm (fun i => lk wh th A ex N m (Pl th m t) (i + 1) c * V (Pl th m t + (i + 1))) 9 = lk wh th A ex N m (Pl th m t) (A m c) c * V (Pl th m t + A m c) := by
        rw [sm_one (k := A m c - 1) (by omega) fun i _ q => by show lk wh th A ex N m (Pl th m t) (i + 1) c * _ = 0; rw [lk_ne (Or.inl (by omega)), Nat.zero_mul]]
        show lk wh th A ex N m (Pl th m t) (A m c - 1 + 1) c * V (Pl th m t + (A m c - 1 + 1)) = _
        rw [show A m c - 1 + 1 = A m c by omega]
      rw [a, o, Nat.zero_mul, Nat.zero_add]
      obtain ⟨v1, v2, v3⟩ := id hv
      have gp : ∀ q, m = q + 1 → Pl th m t = sm th q + t ∧ sm th m = sm th q + th q ∧ m - 1 = q := fun q r => by
        subst r; exact ⟨if_neg (by omega), rfl, rfl⟩
      have g0 : m = 0 → Pl th m t = 0 ∧ sm th m = 0 := fun r => by subst r; exact ⟨if_pos rfl, rfl⟩
      have gs : sm th (m + 1) = sm th m + th m := rfl
      by_cases b : 0 < m ∧ wh (m - 1) = c / 10
      · obtain ⟨q, r⟩ : ∃ q, m = q + 1 := ⟨m - 1, by omega⟩
        obtain ⟨p1, p2, p3⟩ := gp q r
        by_cases d : t + A m c ≤ th (m - 1)
        · have n : nx wh th A N c m t = some (m, t + A m c) := (if_neg z).trans ((if_pos b).trans (if_pos d))
          rw [p3] at d
          have k : lk wh th A ex N m (Pl th m t) (A m c) c = 1 := (if_pos (by omega)).trans ((if_neg e).trans (if_pos ⟨z, rfl, b⟩))
          obtain ⟨w1, w2⟩ := nx_valid hv n
          rw [n, k, Nat.one_mul, ← w2]
          exact hV _ _ w1
        · have n : nx wh th A N c m t = none := (if_neg z).trans ((if_pos b).trans (if_neg d))
          rw [p3] at d
          have k : lk wh th A ex N m (Pl th m t) (A m c) c = 0 := by
            refine (if_neg (by omega)).trans ?_
            by_cases h2 : m < N ∧ Pl th m t = sm th m ∧ Pl th m t + A m c ≤ sm th (m + 1)
            · rw [if_pos h2]; exact (if_neg e).trans (if_neg fun q => q.2.2.1 b)
            · rw [if_neg h2]
          rw [n, k, Nat.zero_mul]; rfl
      · by_cases d : (m = 0 ∨ t = th (m - 1)) ∧ m < N ∧ wh m = c / 10 ∧ A m c ≤ th m
        · have n : nx wh th A N c m t = some (m + 1, A m c) := (if_neg z).trans ((if_neg b).trans (if_pos d))
          have pe : Pl th m t = sm th m := by
            by_cases m0 : m = 0
            · rw [(g0 m0).1, (g0 m0).2]
            · obtain ⟨q, r⟩ : ∃ q, m = q + 1 := ⟨m - 1, by omega⟩
              obtain ⟨p1, p2, p3⟩ := gp q r
              rcases d.1 with x | x
              · exact absurd x m0
              · rw [p1, p2, x, p3]
          have k : lk wh th A ex N m (Pl th m t) (A m c) c = 1 := (if_neg (by omega)).trans ((if_pos ⟨d.2.1, pe, by omega⟩).trans ((if_neg e).trans (if_pos ⟨z, rfl, b, d.2.1, d.2.2.1⟩)))
          obtain ⟨w1, w2⟩ := nx_valid hv n
          rw [n, k, Nat.one_mul, ← w2]
          exact hV _ _ w1
        · have n : nx wh th A N c m t = none := (if_neg z).trans ((if_neg b).trans (if_neg d))
          have k : lk wh th A ex N m (Pl th m t) (A m c) c = 0 := by
            by_cases h1 : Pl th m t + A m c ≤ sm th m
            · exact (if_pos h1).trans ((if_neg e).trans (if_neg fun q => b q.2.2))
            · refine (if_neg h1).trans ?_
              by_cases h2 : m < N ∧ Pl th m t = sm th m ∧ Pl th m t + A m c ≤ sm th (m + 1)
              · rw [if_pos h2]
                refine (if_neg e).trans (if_neg fun q => d ⟨?_, h2.1, q.2.2.2.2, by omega⟩)
                by_cases m0 : m = 0
                · exact Or.inl m0
                · obtain ⟨u, r⟩ : ∃ q, m = q + 1 := ⟨m - 1, by omega⟩
                  obtain ⟨p1, p2, p3⟩ := gp u r
                  exact Or.inr (by rw [p3]; omega)
              · rw [if_neg h2]
          rw [n, k, Nat.zero_mul]; rfl
theorem wy_sum {wh th A ex N l m t} (V : Nat → Nat) (hA : ∀ c, c < 60 → A m c ≤ 9) (hv : Vd th N m t) (hV : ∀ m' t', Vd th N m' t' → wy wh th A ex N N l m' t' = V (Pl th m' t')) : wy wh th A ex N N (l + 1) m t = sm (c0 A ex m) 60 * V (Pl th m t) + sm (fun i => LK wh th A ex N m (Pl th m t) (i + 1) * V (Pl th m t + (i + 1))) 9 := by
  show sm (fun c => if ex c = true then 0 else (nx wh th A N c m t).elim 0 fun s => wy wh th A ex N N l s.1 s.2) 60 = _
  rw [sm_congr fun c hc => wy_one V (hA c hc) hv hV, sm_add, sm_mul, sm_swap]
  congr 1
  refine sm_congr fun i _ => ?_
  show sm (fun c => lk wh th A ex N m (Pl th m t) (i + 1) c * V (Pl th m t + (i + 1))) 60 = LK wh th A ex N m (Pl th m t) (i + 1) * V (Pl th m t + (i + 1))
  rw [LK_eq, sm_mul]
