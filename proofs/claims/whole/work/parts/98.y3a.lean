/-! Days: the counting itself, no machine -/
def sm (f : Nat → Nat) : Nat → Nat
  | 0 => 0
  | n + 1 => sm f n + f n
theorem sm_congr {f g : Nat → Nat} : ∀ {n : Nat}, (∀ i, i < n → f i = g i) → sm f n = sm g n
  | 0, _ => rfl
  | n + 1, h => by
    show sm f n + f n = sm g n + g n
    rw [sm_congr (n := n) fun i q => h i (by omega), h n (by omega)]
theorem sm_add (f g : Nat → Nat) : ∀ n : Nat, sm (fun i => f i + g i) n = sm f n + sm g n
  | 0 => rfl
  | n + 1 => by
    show sm (fun i => f i + g i) n + (f n + g n) = sm f n + f n + (sm g n + g n)
    rw [sm_add f g n]; omega
theorem sm_mul (f : Nat → Nat) (x : Nat) : ∀ n : Nat, sm (fun i => f i * x) n = sm f n * x
  | 0 => (Nat.zero_mul x).symm
  | n + 1 => by
    show sm (fun i => f i * x) n + f n * x = (sm f n + f n) * x
    rw [sm_mul f x n, Nat.add_mul]
theorem sm_zero {f : Nat → Nat} : ∀ {n : Nat}, (∀ i, i < n → f i = 0) → sm f n = 0
  | 0, _ => rfl
  | n + 1, h => by
    show sm f n + f n = 0
    rw [sm_zero (n := n) fun i q => h i (by omega), h n (by omega)]
theorem sm_swap (f : Nat → Nat → Nat) (m : Nat) : ∀ n : Nat, sm (fun i => sm (fun k => f i k) m) n = sm (fun k => sm (fun i => f i k) n) m
  | 0 => (sm_zero fun _ _ => rfl).symm
  | n + 1 => by
    show sm (fun i => sm (fun k => f i k) m) n + sm (fun k => f n k) m = sm (fun k => sm (fun i => f i k) n + f n k) m
    rw [sm_swap f m n, sm_add]
theorem sm_one {f : Nat → Nat} {k : Nat} : ∀ {n : Nat}, k < n → (∀ i, i < n → i ≠ k → f i = 0) → sm f n = f k
  | 0, h, _ => by omega
  | n + 1, h, q => by
    show sm f n + f n = f k
    by_cases e : k = n
    · subst e; rw [sm_zero fun i p => q i (by omega) (by omega), Nat.zero_add]
    · rw [sm_one (n := n) (by omega) fun i p r => q i (by omega) r, q n (by omega) (by omega), Nat.add_zero]
theorem sm_le {f : Nat → Nat} {b : Nat} : ∀ {n : Nat}, (∀ i, i < n → f i ≤ b) → sm f n ≤ n * b
  | 0, _ => Nat.zero_le _
  | n + 1, h => by
    show sm f n + f n ≤ (n + 1) * b
    have a := sm_le (n := n) fun i q => h i (by omega)
    have c := h n (by omega)
    rw [Nat.add_mul]; omega
theorem sm_pos {f : Nat → Nat} : ∀ {n : Nat}, 0 < sm f n → ∃ i, i < n ∧ 0 < f i
  | 0, h => absurd h (Nat.lt_irrefl 0)
  | n + 1, h => by
    have h' : 0 < sm f n + f n := h
    by_cases e : 0 < f n
    · exact ⟨n, by omega, e⟩
    · obtain ⟨i, a, b⟩ := sm_pos (f := f) (n := n) (by omega)
      exact ⟨i, by omega, b⟩
theorem sm_mono {f : Nat → Nat} : ∀ {n m : Nat}, m ≤ n → sm f m ≤ sm f n
  | 0, m, h => by have : m = 0 := by omega
                  subst this; exact Nat.le_refl _
  | n + 1, m, h => by
    by_cases e : m = n + 1
    · subst e; exact Nat.le_refl _
    · exact Nat.le_trans (sm_mono (n := n) (by omega)) (Nat.le_add_right _ _)
def nx (wh th : Nat → Nat) (A : Nat → Nat → Nat) (K c m t : Nat) : Option (Nat × Nat) :=
  if A m c = 0 then some (m, t)
  else if 0 < m ∧ wh (m - 1) = c / 10 then (if t + A m c ≤ th (m - 1) then some (m, t + A m c) else none)
  else if (m = 0 ∨ t = th (m - 1)) ∧ m < K ∧ wh m = c / 10 ∧ A m c ≤ th m then some (m + 1, A m c) else none
def wy (wh th : Nat → Nat) (A : Nat → Nat → Nat) (ex : Nat → Bool) (N K : Nat) : Nat → Nat → Nat → Nat
  | 0, m, t => if m = N ∧ (m = 0 ∨ t = th (m - 1)) then 1 else 0
  | l + 1, m, t => sm (fun c => if ex c = true then 0 else (nx wh th A K c m t).elim 0 fun s => wy wh th A ex N K l s.1 s.2) 60
def Vd (th : Nat → Nat) (N m t : Nat) : Prop := m ≤ N ∧ (m = 0 → t = 0) ∧ (0 < m → 1 ≤ t ∧ t ≤ th (m - 1))
def Pl (th : Nat → Nat) (m t : Nat) : Nat := if m = 0 then 0 else sm th (m - 1) + t
theorem wy_le {wh th A ex N K} : ∀ l m t, wy wh th A ex N K l m t ≤ 60 ^ l
  | 0, m, t => by
    show (if m = N ∧ (m = 0 ∨ t = th (m - 1)) then 1 else 0) ≤ 1
    by_cases c : m = N ∧ (m = 0 ∨ t = th (m - 1))
    · rw [if_pos c]; exact Nat.le_refl 1
    · rw [if_neg c]; exact Nat.zero_le 1
  | l + 1, m, t => by
    show sm (fun c => if ex c = true then 0 else (nx wh th A K c m t).elim 0 fun s => wy wh th A ex N K l s.1 s.2) 60 ≤ 60 ^ (l + 1)
    rw [Nat.pow_succ, Nat.mul_comm]
    refine sm_le fun c _ => ?_
    by_cases e : ex c = true
    · rw [if_pos e]; exact Nat.zero_le _
    · rw [if_neg e]
      cases nx wh th A K c m t with
      | none => exact Nat.zero_le _
      | some s => exact wy_le l s.1 s.2
theorem wy_lt {wh th A ex N K l m t} (h : l ≤ 9) : wy wh th A ex N K l m t < 9223372036854775808 :=
  Nat.lt_of_le_of_lt (wy_le l m t) (Nat.lt_of_le_of_lt (Nat.pow_le_pow_right (by omega) h) (by decide))
theorem nx_cap {wh th A N c m t} (h : m < 9) : nx wh th A (min N 9) c m t = nx wh th A N c m t := by
  have e : (m < min N 9) = (m < N) := propext (by omega)
  unfold nx; simp only [e]
theorem nx_m {wh th A K c m t} {s : Nat × Nat} (h : nx wh th A K c m t = some s) : s.1 ≤ m + 1 := by
  unfold nx at h
  by_cases a : A m c = 0
  · rw [if_pos a] at h; cases h; omega
  · rw [if_neg a] at h
    by_cases b : 0 < m ∧ wh (m - 1) = c / 10
    · rw [if_pos b] at h
      by_cases d : t + A m c ≤ th (m - 1)
      · rw [if_pos d] at h; cases h; omega
      · rw [if_neg d] at h; cases h
    · rw [if_neg b] at h
      by_cases d : (m = 0 ∨ t = th (m - 1)) ∧ m < K ∧ wh m = c / 10 ∧ A m c ≤ th m
      · rw [if_pos d] at h; cases h; omega
      · rw [if_neg d] at h; cases h
theorem wy_cap {wh th A ex N} : ∀ l m t, m + l ≤ 9 → wy wh th A ex N (min N 9) l m t = wy wh th A ex N N l m t
  | 0, m, t, _ => rfl
  | l + 1, m, t, h => by
    show sm (fun c => if ex c = true then 0 else (nx wh th A (min N 9) c m t).elim 0 fun s => wy wh th A ex N (min N 9) l s.1 s.2) 60 = sm (fun c => if ex c = true then 0 else (nx wh th A N c m t).elim 0 fun s => wy wh th A ex N N l s.1 s.2) 60
    refine sm_congr fun c _ => ?_
    show (if ex c = true then 0 else (nx wh th A (min N 9) c m t).elim 0 fun s => wy wh th A ex N (min N 9) l s.1 s.2) = (if ex c = true then 0 else (nx wh th A N c m t).elim 0 fun s => wy wh th A ex N N l s.1 s.2)
    by_cases e : ex c = true
    · rw [if_pos e, if_pos e]
    · rw [if_neg e, if_neg e, nx_cap (by omega)]
      cases q : nx wh th A N c m t with
      | none => rfl
      | some s => exact wy_cap l s.1 s.2 (by have := nx_m q; omega)
theorem wy_out {wh th A ex N K k} (hk : k < N) (he : ∀ c, wh k = c / 10 → ex c = true) : ∀ l m t, m ≤ k → wy wh th A ex N K l m t = 0
  | 0, m, t, h => if_neg (by omega)
  | l + 1, m, t, h => by
    show sm (fun c => if ex c = true then 0 else (nx wh th A K c m t).elim 0 fun s => wy wh th A ex N K l s.1 s.2) 60 = 0
    refine sm_zero fun c _ => ?_
    show (if ex c = true then 0 else (nx wh th A K c m t).elim 0 fun s => wy wh th A ex N K l s.1 s.2) = 0
    by_cases e : ex c = true
    · rw [if_pos e]
    · rw [if_neg e]
      cases q : nx wh th A K c m t with
      | none => rfl
      | some s =>
        refine wy_out hk he l s.1 s.2 ?_
        unfold nx at q
        by_cases a : A m c = 0
        · rw [if_pos a] at q; cases q; exact h
        · rw [if_neg a] at q
          by_cases b : 0 < m ∧ wh (m - 1) = c / 10
          · rw [if_pos b] at q
            by_cases d : t + A m c ≤ th (m - 1)
            · rw [if_pos d] at q; cases q; exact h
            · rw [if_neg d] at q; cases q
          · rw [if_neg b] at q
            by_cases d : (m = 0 ∨ t = th (m - 1)) ∧ m < K ∧ wh m = c / 10 ∧ A m c ≤ th m
            · rw [if_pos d] at q; cases q
              by_cases f : m = k
              · subst f; exact absurd (he c d.2.2.1) e
              · show m + 1 ≤ k; omega
            · rw [if_neg d] at q; cases q
theorem nx_valid {wh th A N c m t} {s : Nat × Nat} (hv : Vd th N m t) (h : nx wh th A N c m t = some s) : Vd th N s.1 s.2 ∧ Pl th s.1 s.2 = Pl th m t + A m c := by
  obtain ⟨v1, v2, v3⟩ := hv
  unfold nx at h
  by_cases a : A m c = 0
  · rw [if_pos a] at h; cases h; exact ⟨⟨v1, v2, v3⟩, by show Pl th m t = Pl th m t + A m c; omega⟩
  · rw [if_neg a] at h
    by_cases b : 0 < m ∧ wh (m - 1) = c / 10
    · rw [if_pos b] at h
      by_cases d : t + A m c ≤ th (m - 1)
      · rw [if_pos d] at h; cases h
        exact ⟨⟨v1, fun q => absurd q (by omega), fun q => ⟨by show 1 ≤ t + A m c; omega, d⟩⟩, by
          show (if m = 0 then 0 else sm th (m - 1) + (t + A m c)) = (if m = 0 then 0 else sm th (m - 1) + t) + A m c
          rw [if_neg (by omega), if_neg (by omega)]; omega⟩
      · rw [if_neg d] at h; cases h
    · rw [if_neg b] at h
      by_cases d : (m = 0 ∨ t = th (m - 1)) ∧ m < N ∧ wh m = c / 10 ∧ A m c ≤ th m
      · rw [if_pos d] at h; cases h
        refine ⟨⟨by show m + 1 ≤ N; omega, fun q => absurd q (by show m + 1 ≠ 0; omega), fun _ => ⟨by show 1 ≤ A m c; omega, by show A m c ≤ th (m + 1 - 1); exact d.2.2.2⟩⟩, ?_⟩
        show (if m + 1 = 0 then 0 else sm th m + A m c) = (if m = 0 then 0 else sm th (m - 1) + t) + A m c
        rw [if_neg (by omega)]
        rcases d.1 with e | e
        · subst e; rfl
        · by_cases f : m = 0
          · subst f; rfl
          · rw [if_neg f, e]
            obtain ⟨p, rfl⟩ : ∃ p, m = p + 1 := ⟨m - 1, by omega⟩
            rfl
      · rw [if_neg d] at h; cases h
theorem wy_far {wh th A ex N} (hA : ∀ m c, m ≤ N → c < 60 → A m c ≤ 9) : ∀ l m t, Vd th N m t → Pl th m t + 9 * l < sm th N → wy wh th A ex N N l m t = 0
  | 0, m, t, hv, h => by
    refine if_neg fun q => ?_
    obtain ⟨rfl, q⟩ := q
    unfold Pl at h
    by_cases e : m = 0
    · subst e; rw [if_pos rfl] at h; exact absurd h (by show ¬ (0 < 0); omega)
    · rw [if_neg e] at h
      rcases q with q | q
      · exact e q
      · obtain ⟨p, rfl⟩ : ∃ p, m = p + 1 := ⟨m - 1, by omega⟩
        have : sm th (p + 1) = sm th p + th p := rfl
        have w : t = th p := q
        have z : p + 1 - 1 = p := rfl
        rw [z] at h
        omega
  | l + 1, m, t, hv, h => by
    show sm (fun c => if ex c = true then 0 else (nx wh th A N c m t).elim 0 fun s => wy wh th A ex N N l s.1 s.2) 60 = 0
    refine sm_zero fun c hc => ?_
    show (if ex c = true then 0 else (nx wh th A N c m t).elim 0 fun s => wy wh th A ex N N l s.1 s.2) = 0
    by_cases e : ex c = true
    · rw [if_pos e]
    · rw [if_neg e]
      cases q : nx wh th A N c m t with
      | none => rfl
      | some s =>
        obtain ⟨a, b⟩ := nx_valid hv q
        have := hA m c hv.1 hc
        exact wy_far hA l s.1 s.2 a (by omega)
