/-! Days: the table of ways -/
theorem l81 : (81 : Int32).toInt = 81 := rfl
theorem from_eq {p l : Nat} (hp : p ≤ 81) (hl : l ≤ 9) (vl : VL) : fX2_waysFrom (nI p) (nI l) vl = some (vl 17 (l * 82 + p)) := by
  have e : (nI l * 82 + nI p : Int32) = nI (l * 82 + p) := by rw [show (82 : Int32) = nI 82 from rfl, nI_mul, nI_add]
  unfold fX2_waysFrom
  rw [if_neg (by rw [tlt, tnI (by omega), l0]; omega), if_neg (by rw [tlt, tnI (by omega), l81]; omega), if_neg (by rw [tlt, tnI (by omega), l0]; omega), if_neg (by rw [tlt, tnI (by omega), l9]; omega)]
  unfold fX2_waysFrom_25
  rw [if_neg (by decide), e, if_inb (by rw [tnI (by omega)]; omega), nI_clamp (by omega)]
theorem from_bare0 (x : Int32) (vl : VL) (hz : ∀ i, i < 820 → vl 17 i = 0) (p : Int32) : fX2_waysFrom p x vl = some 0 := by
  unfold fX2_waysFrom fX2_waysFrom_24
  have z : ∀ a b, fX2_waysFrom_25 vl a b 0 = some 0 := fun a b => if_pos rfl
  by_cases c1 : p < 0
  · rw [if_pos c1, z]
  · rw [if_neg c1]
    by_cases c2 : 81 < p
    · rw [if_pos c2, z]
    · rw [if_neg c2]
      by_cases c3 : x < 0
      · rw [if_pos c3, z]
      · rw [if_neg c3]
        by_cases c4 : 9 < x
        · rw [if_pos c4, z]
        · rw [if_neg c4]
          rw [tlt, l0] at c1 c3
          rw [tlt, l81] at c2
          rw [tlt, l9] at c4
          obtain ⟨q, hq, rfl⟩ := ex_nI (x := p) (N := 82) (by omega) (by omega) (by omega)
          obtain ⟨l, hl, rfl⟩ := ex_nI (x := x) (N := 10) (by omega) (by omega) (by omega)
          have e : (nI l * 82 + nI q : Int32) = nI (l * 82 + q) := by rw [show (82 : Int32) = nI 82 from rfl, nI_mul, nI_add]
          unfold fX2_waysFrom_25
          rw [if_neg (by decide), e, if_inb (by rw [tnI (by omega)]; omega), nI_clamp (by omega), hz _ (by omega)]
theorem pl_hi {th n m t} (h : Vd th n m t) : Pl th m t ≤ sm th m := by
  unfold Pl
  by_cases e : m = 0
  · rw [if_pos e]; omega
  · obtain ⟨q, rfl⟩ : ∃ q, m = q + 1 := ⟨m - 1, by omega⟩
    rw [if_neg e]
    have := (h.2.2 (by omega)).2
    show sm th q + t ≤ sm th q + th q
    have e2 : q + 1 - 1 = q := rfl
    rw [e2] at this
    omega
theorem pl_lo {th n m t i} (h : Vd th n m t) (hi : i < m) : sm th i < Pl th m t := by
  unfold Pl
  rw [if_neg (by omega)]
  have := (h.2.2 (by omega)).1
  have := sm_mono (f := th) (n := m - 1) (m := i) (by omega)
  omega
theorem pl_g {th n m t} (h : Vd th n m t) : Pl th m t ≤ sm th n := Nat.le_trans (pl_hi h) (sm_mono h.1)
theorem pl_inj {th n m t m' t'} (h : Vd th n m t) (h' : Vd th n m' t') (e : Pl th m t = Pl th m' t') : m = m' ∧ t = t' := by
  have a := pl_hi h
  have b := pl_hi h'
  have em : m = m' := by
    by_cases c : m < m'
    · have := pl_lo h' c; omega
    · by_cases d : m' < m
      · have := pl_lo h d; omega
      · omega
  subst em
  refine ⟨rfl, ?_⟩
  unfold Pl at e
  by_cases z : m = 0
  · rw [h.2.1 z, h'.2.1 z]
  · rw [if_neg z, if_neg z] at e; omega
theorem pl_ex {th : Nat → Nat} : ∀ {n p : Nat}, p ≤ sm th n → ∃ m t, Vd th n m t ∧ Pl th m t = p
  | 0, p, h => ⟨0, 0, ⟨Nat.le_refl 0, fun _ => rfl, fun q => absurd q (by omega)⟩, by
      have : p ≤ 0 := h
      show 0 = p; omega⟩
  | n + 1, p, h => by
    by_cases c : p ≤ sm th n
    · obtain ⟨m, t, a, b⟩ := pl_ex (n := n) c
      exact ⟨m, t, ⟨Nat.le_succ_of_le a.1, a.2⟩, b⟩
    · have g : sm th (n + 1) = sm th n + th n := rfl
      refine ⟨n + 1, p - sm th n, ⟨Nat.le_refl _, fun q => absurd q (by omega), fun _ => ⟨by omega, ?_⟩⟩, ?_⟩
      · show p - sm th n ≤ th n; omega
      · show sm th n + (p - sm th n) = p; omega
theorem lay_loop {wh th : Nat → Nat} {A : Nat → Nat → Nat} {ex : Nat → Bool} {n m t : Nat} {vi : VI} (s : SB wh th A ex n (n + 1) vi) (n12 : n ≤ 12) (hg : sm th n ≤ 81) (hv : Vd th n m t) : ∀ (d i F : Nat), m - i = d → i ≤ m → d < F → fX2_layersAt_2 vi F (nI (Pl th m t)) (nI i) = some (nI m) := by
  have hm := hv.1
  have hp := pl_g hv
  intro d
  induction d with
  | zero =>
    intro i F hd hi hF
    obtain ⟨F, rfl⟩ : ∃ F', F = F' + 1 := ⟨F - 1, by omega⟩
    obtain rfl : i = m := by omega
    by_cases c : vi 16 5 ≤ nI i
    · exact if_pos c
    · refine (if_neg c).trans ((if_inb (by rw [tnI (by omega)]; omega)).trans (if_pos ?_))
      have := sm_mono (f := th) hm
      have := pl_hi hv
      rw [nI_clamp (by omega), (s.2.2.1 i (by omega)).1, tle, tnI (by omega), tnI (by omega)]; omega
  | succ d ih =>
    intro i F hd hi hF
    obtain ⟨F, rfl⟩ : ∃ F', F = F' + 1 := ⟨F - 1, by omega⟩
    have := pl_lo hv (show i < m by omega)
    refine (if_neg (by rw [s.1, tle, tnI (by omega), tnI (by omega)]; omega)).trans ((if_inb (by rw [tnI (by omega)]; omega)).trans ((if_neg ?_).trans ?_))
    · rw [nI_clamp (by omega), (s.2.2.1 i (by omega)).1, tle, tnI (by omega), tnI (by omega)]; omega
    · rw [nI_1]; exact ih (i + 1) F (by omega) (by omega) (by omega)
theorem lay_at {wh th : Nat → Nat} {A : Nat → Nat → Nat} {ex : Nat → Bool} {n m t : Nat} {vi : VI} (s : SB wh th A ex n (n + 1) vi) (n12 : n ≤ 12) (hg : sm th n ≤ 81) (hv : Vd th n m t) : fX2_layersAt (nI (Pl th m t)) vi = some (nI m) :=
  lay_loop s n12 hg hv m 0 FU (by omega) (by omega) (by rw [FU_eq]; have := hv.1; omega)
theorem begin_eq {wh th : Nat → Nat} {A : Nat → Nat → Nat} {ex : Nat → Bool} {n m p a : Nat} {vi : VI} (s : SB wh th A ex n (n + 1) vi) (n12 : n ≤ 12) (hg : sm th n ≤ 81) (hm : m ≤ n) (hp : p ≤ 81) (ha : a ≤ 9) : fX2_mayBegin (nI m) (nI p) (nI a) vi = some (decide (m < n ∧ p = sm th m ∧ p + a ≤ sm th (m + 1))) := by
  have hm' := sm_mono (f := th) hm
  unfold fX2_mayBegin
  by_cases c : m < n
  · have h1 := sm_mono (f := th) (show m + 1 ≤ n by omega)
    rw [if_neg (by rw [s.1, tle, tnI (by omega), tnI (by omega)]; omega), if_inb (by rw [tnI (by omega)]; omega), nI_clamp (by omega), (s.2.2.1 m (by omega)).1]
    by_cases d : p = sm th m
    · rw [if_pos (by rw [d]), nI_1, if_inb (by rw [tnI (by omega)]; omega), nI_clamp (by omega), (s.2.2.1 (m + 1) (by omega)).1, nI_add]
      by_cases e : p + a ≤ sm th (m + 1)
      · rw [if_neg (by rw [tlt, tnI (by omega), tnI (by omega)]; omega), decide_eq_true ⟨c, d, e⟩]
      · rw [if_pos (by rw [tlt, tnI (by omega), tnI (by omega)]; omega), decide_eq_false fun q => e q.2.2]
    · rw [if_neg (by rw [nI_inj (by omega) (by omega)]; exact d), decide_eq_false fun q => d q.2.1]
  · rw [if_pos (by rw [s.1, tle, tnI (by omega), tnI (by omega)]; omega), decide_eq_false fun q => c q.1]
theorem look_eq {wh th : Nat → Nat} {A : Nat → Nat → Nat} {ex : Nat → Bool} {n m p a : Nat} {vi : VI} (s : SB wh th A ex n (n + 1) vi) (n12 : n ≤ 12) (hg : sm th n ≤ 81) (hm : m ≤ n) (hp : p ≤ 81) (ha : a ≤ 9) : fX2_lookingsThatLay (nI m) (nI p) (nI a) vi = some (nI (LK wh th A ex n m p a)) := by
  have hm' := sm_mono (f := th) hm
  have e : (nI m * 10 + nI a : Int32) = nI (m * 10 + a) := by rw [show (10 : Int32) = nI 10 from rfl, nI_mul, nI_add]
  have c := (s.2.2.1 m (by omega)).2.2 a (by omega)
  unfold fX2_lookingsThatLay
  rw [if_inb (by rw [tnI (by omega)]; omega), nI_clamp (by omega), (s.2.2.1 m (by omega)).1, nI_add, e, begin_eq s n12 hg hm hp ha, if_inb (by rw [tnI (by omega)]; omega), if_inb (by rw [tnI (by omega)]; omega), nI_clamp (by omega), c.1, c.2, Option.bind_some]
  unfold LK
  by_cases h1 : p + a ≤ sm th m
  · rw [if_neg (by rw [tlt, tnI (by omega), tnI (by omega)]; omega), if_pos h1]
  · rw [if_pos (by rw [tlt, tnI (by omega), tnI (by omega)]; omega), if_neg h1]
    by_cases h2 : m < n ∧ p = sm th m ∧ p + a ≤ sm th (m + 1)
    · rw [if_pos h2, if_pos (decide_eq_true h2)]
    · rw [if_neg h2, if_neg (by rw [decide_eq_false h2]; exact Bool.noConfusion)]; rfl
theorem LK_le {wh th A ex n m p a} : LK wh th A ex n m p a ≤ 60 := by
  rw [LK_eq]
  refine Nat.le_trans (sm_le (b := 1) fun c _ => ?_) (by omega)
  have t : cT wh A ex m a c ≤ 1 := by
    unfold cT
    by_cases e : ex c = true
    · rw [if_pos e]; omega
    · rw [if_neg e]
      by_cases f : A m c ≠ 0 ∧ A m c = a ∧ (0 < m ∧ wh (m - 1) = c / 10)
      · rw [if_pos f]; omega
      · rw [if_neg f]; omega
  have b : cB wh A ex n m a c ≤ 1 := by
    unfold cB
    by_cases e : ex c = true
    · rw [if_pos e]; omega
    · rw [if_neg e]
      by_cases f : A m c ≠ 0 ∧ A m c = a ∧ ¬ (0 < m ∧ wh (m - 1) = c / 10) ∧ m < n ∧ wh m = c / 10
      · rw [if_pos f]; omega
      · rw [if_neg f]; omega
  unfold lk
  by_cases h1 : p + a ≤ sm th m
  · rw [if_pos h1]; exact t
  · rw [if_neg h1]
    by_cases h2 : m < n ∧ p = sm th m ∧ p + a ≤ sm th (m + 1)
    · rw [if_pos h2]; exact b
    · rw [if_neg h2]; omega
theorem LK_out {wh th A ex n m p a} (hm : m ≤ n) (h : sm th n < p + a) : LK wh th A ex n m p a = 0 := by
  have h1 := sm_mono (f := th) hm
  refine (if_neg (by omega)).trans (if_neg fun q => ?_)
  have := sm_mono (f := th) (show m + 1 ≤ n by omega)
  omega
theorem sm_stop {f : Nat → Nat} {k : Nat} : ∀ {n : Nat}, k ≤ n → (∀ i, k ≤ i → i < n → f i = 0) → sm f n = sm f k
  | 0, h, _ => by rw [show k = 0 by omega]
  | n + 1, h, q => by
    by_cases e : k = n + 1
    · rw [e]
    · show sm f n + f n = sm f k
      rw [q n (by omega) (by omega), sm_stop (n := n) (by omega) fun i a b => q i a (by omega), Nat.add_zero]
