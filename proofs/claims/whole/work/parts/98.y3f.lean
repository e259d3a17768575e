/-! Days: the table filled -/
def TW (wh th : Nat → Nat) (A : Nat → Nat → Nat) (ex : Nat → Bool) (n a : Nat) (vl : VL) : Prop := (∀ l m t, l ≤ 9 → Vd th n m t → l * 82 + Pl th m t < a → vl 17 (l * 82 + Pl th m t) = nL (wy wh th A ex n n l m t)) ∧ ∀ i, a ≤ i → i < 820 → vl 17 i = 0
theorem ex_V {wh th : Nat → Nat} {A : Nat → Nat → Nat} {ex : Nat → Bool} {n : Nat} (l : Nat) : ∃ V : Nat → Nat, ∀ m t, Vd th n m t → wy wh th A ex n n l m t = V (Pl th m t) := by
  have h : ∀ p, ∃ v, ∀ m t, Vd th n m t → Pl th m t = p → wy wh th A ex n n l m t = v := by
    intro p
    by_cases c : ∃ m t, Vd th n m t ∧ Pl th m t = p
    · obtain ⟨m, t, a, b⟩ := c
      refine ⟨wy wh th A ex n n l m t, fun m' t' a' b' => ?_⟩
      obtain ⟨e1, e2⟩ := pl_inj a' a (b'.trans b.symm)
      rw [e1, e2]
    · exact ⟨0, fun m t a b => absurd ⟨m, t, a, b⟩ c⟩
  exact ⟨fun p => (h p).choose, fun m t a => (h (Pl th m t)).choose_spec m t a rfl⟩
theorem n_le0 {k : Nat} (h : k < 2147483648) : (nI k ≤ 0) ↔ k = 0 := by rw [tle, tnI h, l0]; omega
theorem loop49 {wh th : Nat → Nat} {A : Nat → Nat → Nat} {ex : Nat → Bool} {n m p l : Nat} {vi : VI} {vl : VL} {V : Nat → Nat} {k14 : Int32 → Int32 → VL → Option VL} (s : SB wh th A ex n (n + 1) vi) (n12 : n ≤ 12) (hg : sm th n ≤ 81) (hm : m ≤ n) (hp : p ≤ sm th n) (hl : l + 1 ≤ 9) (cells : ∀ q, q ≤ sm th n → vl 17 (l * 82 + q) = nL (V q)) (base : Nat) : ∀ (d i F : Nat), 9 - i = d → i ≤ 9 → d < F → fX2_workOutWith_49 vi k14 F (nI (l + 1)) (nI p) (nI m) (nL (base + sm (fun i => LK wh th A ex n m p (i + 1) * V (p + (i + 1))) i)) (nI (i + 1)) vl = fX2_workOutWith_108 vi k14 (nI (l + 1)) (nI p) (nL (base + sm (fun i => LK wh th A ex n m p (i + 1) * V (p + (i + 1))) 9)) vl := by
  intro d
  induction d with
  | zero =>
    intro i F hd hi hF
    obtain ⟨F, rfl⟩ : ∃ F', F = F' + 1 := ⟨F - 1, by omega⟩
    obtain rfl : i = 9 := by omega
    exact if_pos (by decide)
  | succ d ih =>
    intro i F hd hi hF
    obtain ⟨F, rfl⟩ : ∃ F', F = F' + 1 := ⟨F - 1, by omega⟩
    refine (if_neg (by rw [tle, tnI (by omega), l10]; omega)).trans ?_
    rw [s.2.1, nI_add]
    by_cases c : sm th n < p + (i + 1)
    · refine (if_pos (by rw [tlt, tnI (by omega), tnI (by omega)]; omega)).trans ?_
      rw [sm_stop (f := fun i => LK wh th A ex n m p (i + 1) * V (p + (i + 1))) (k := i) (n := 9) (by omega) fun q a b => by
        show LK wh th A ex n m p (q + 1) * _ = 0
        rw [LK_out hm (by omega), Nat.zero_mul]]
    · refine (if_neg (by rw [tlt, tnI (by omega), tnI (by omega)]; omega)).trans ?_
      have hk := LK_le (wh := wh) (th := th) (A := A) (ex := ex) (n := n) (m := m) (p := p) (a := i + 1)
      have e1 : (nI (l + 1) - 1 : Int32) = nI l := nI_sub (a := l + 1) (b := 1) (by omega)
      have nxt := ih (i + 1) F (by omega) (by omega) (by omega)
      rw [look_eq s n12 hg hm (by omega) (by omega), Option.bind_some, e1, from_eq (by omega) (by omega), cells _ (by omega), nI_64 (by omega), Option.bind_some, nL_mul, nL_add]
      unfold fX2_workOutWith_102
      rw [nI_1]
      by_cases z : LK wh th A ex n m p (i + 1) = 0
      · rw [if_pos ((n_le0 (by omega)).2 z)]
        have q : sm (fun i => LK wh th A ex n m p (i + 1) * V (p + (i + 1))) (i + 1) = sm (fun i => LK wh th A ex n m p (i + 1) * V (p + (i + 1))) i := by
          show sm _ i + LK wh th A ex n m p (i + 1) * V (p + (i + 1)) = _
          rw [z, Nat.zero_mul, Nat.add_zero]
        rw [q] at nxt
        exact nxt
      · rw [if_neg fun q => z ((n_le0 (by omega)).1 q), Nat.add_assoc]
        exact nxt
theorem loop14 {wh th : Nat → Nat} {A : Nat → Nat → Nat} {ex : Nat → Bool} {n l : Nat} {vi : VI} (s : SB wh th A ex n (n + 1) vi) (n12 : n ≤ 12) (hg : sm th n ≤ 81) (hl : l + 1 ≤ 9) (hA : ∀ m c, m ≤ n → c < 60 → A m c ≤ 9) : ∀ (d p : Nat) (vl : VL), sm th n + 1 - p = d → p ≤ sm th n + 1 → TW wh th A ex n ((l + 1) * 82 + p) vl → ∃ vl', (∀ F, d < F → fX2_workOutWith_14 vi F (nI (l + 1)) (nI p) vl = some vl') ∧ TW wh th A ex n ((l + 1) * 82 + (sm th n + 1)) vl' ∧ ∀ a i, a ≠ 17 → vl' a i = vl a i := by
  intro d
  induction d with
  | zero =>
    intro p vl hd hp hT
    obtain rfl : p = sm th n + 1 := by omega
    refine ⟨vl, fun F hF => ?_, hT, fun _ _ _ => rfl⟩
    obtain ⟨F, rfl⟩ : ∃ F', F = F' + 1 := ⟨F - 1, by omega⟩
    exact if_pos (by rw [s.2.1, tlt, tnI (by omega), tnI (by omega)]; omega)
  | succ d ih =>
    intro p vl hd hp hT
    have hp' : p ≤ sm th n := by omega
    obtain ⟨m, t, hv, rfl⟩ := pl_ex hp'
    obtain ⟨V, hV⟩ := ex_V (wh := wh) (th := th) (A := A) (ex := ex) (n := n) l
    have cells : ∀ q, q ≤ sm th n → vl 17 (l * 82 + q) = nL (V q) := by
      intro q hq
      obtain ⟨m', t', hv', rfl⟩ := pl_ex hq
      rw [hT.1 l m' t' (by omega) hv' (by omega), hV m' t' hv']
    have tot := wy_sum V (fun c hc => hA m c hv.1 hc) hv hV (l := l)
    have hT' : TW wh th A ex n ((l + 1) * 82 + (Pl th m t + 1)) (j_up vl 17 ((l + 1) * 82 + Pl th m t) (nL (wy wh th A ex n n (l + 1) m t))) := by
      refine ⟨fun l' m' t' hl' hv' q => ?_, fun i q1 q2 => (up_i (by omega)).trans (hT.2 i (by omega) q2)⟩
      by_cases e : l' * 82 + Pl th m' t' = (l + 1) * 82 + Pl th m t
      · have := pl_g hv'
        have e1 : l' = l + 1 := by omega
        obtain ⟨e2, e3⟩ := pl_inj hv' hv (by omega)
        rw [e, up_s, e1, e2, e3]
      · rw [up_i e]
        exact hT.1 l' m' t' hl' hv' (by omega)
    obtain ⟨vl', g1, g2, g3⟩ := ih (Pl th m t + 1) _ (by omega) (by omega) hT'
    refine ⟨vl', fun F hF => ?_, g2, fun a i q => (g3 a i q).trans (up_o q)⟩
    obtain ⟨F, rfl⟩ : ∃ F', F = F' + 1 := ⟨F - 1, by omega⟩
    refine (if_neg (by rw [s.2.1, tlt, tnI (by omega), tnI (by omega)]; omega)).trans ?_
    have e1 : (nI (l + 1) - 1 : Int32) = nI l := nI_sub (a := l + 1) (b := 1) (by omega)
    have hm := hv.1
    have c0le : sm (c0 A ex m) 60 ≤ 60 := by
      refine Nat.le_trans (sm_le (b := 1) fun c _ => ?_) (by omega)
      unfold c0
      by_cases e : ex c = true
      · rw [if_pos e]; omega
      · rw [if_neg e]
        by_cases f : A m c = 0
        · rw [if_pos f]; omega
        · rw [if_neg f]; omega
    rw [lay_at s n12 hg hv, Option.bind_some]
    refine (if_inb (by rw [tnI (by omega)]; omega)).trans ?_
    rw [e1, from_eq (by omega) (by omega), Option.bind_some, nI_clamp (by omega), (s.2.2.1 m (by omega)).2.1, cells _ hp', nI_64 (by omega), nL_mul]
    have r := loop49 (k14 := fX2_workOutWith_14 vi F) (vl := vl) (V := V) (m := m) (p := Pl th m t) s n12 hg hm hp' hl cells (sm (c0 A ex m) 60 * V (Pl th m t)) 9 0 FU (by omega) (by omega) (by rw [FU_eq]; omega)
    refine r.trans ?_
    rw [← tot]
    unfold fX2_workOutWith_108
    have e2 : (nI (l + 1) * 82 + nI (Pl th m t) : Int32) = nI ((l + 1) * 82 + Pl th m t) := by rw [show (82 : Int32) = nI 82 from rfl, nI_mul, nI_add]
    rw [e2, if_inb (by rw [tnI (by omega)]; omega), nI_clamp (by omega), nI_1]
    exact g1 F (by omega)
theorem with_eq {wh th : Nat → Nat} {A : Nat → Nat → Nat} {ex : Nat → Bool} {n l : Nat} {vi : VI} {vl : VL} (s : SB wh th A ex n (n + 1) vi) (n12 : n ≤ 12) (hg : sm th n ≤ 81) (hl : l + 1 ≤ 9) (hA : ∀ m c, m ≤ n → c < 60 → A m c ≤ 9) (hT : TW wh th A ex n (l * 82 + (sm th n + 1)) vl) : ∃ vl', fX2_workOutWith (nI (l + 1)) vi vl = some vl' ∧ TW wh th A ex n ((l + 1) * 82 + (sm th n + 1)) vl' ∧ ∀ a i, a ≠ 17 → vl' a i = vl a i := by
  have hT' : TW wh th A ex n ((l + 1) * 82 + (sm th n - (l + 1) * 9)) vl := by
    refine ⟨fun l' m t hl' hv q => ?_, fun i q1 q2 => hT.2 i (by omega) q2⟩
    have hp := pl_g hv
    by_cases c : l' ≤ l
    · exact hT.1 l' m t hl' hv (by omega)
    · have e : l' = l + 1 := by omega
      subst e
      rw [hT.2 _ (by omega) (by omega), wy_far hA (l + 1) m t hv (by omega)]; rfl
  obtain ⟨vl', g1, g2, g3⟩ := loop14 s n12 hg hl hA (sm th n + 1 - (sm th n - (l + 1) * 9)) (sm th n - (l + 1) * 9) vl rfl (by omega) hT'
  refine ⟨vl', ?_, g2, g3⟩
  have e : (if 0 < ((vi 16 6) - (nI (l + 1) * 9)) then ((vi 16 6) - (nI (l + 1) * 9)) else 0 : Int32) = nI (sm th n - (l + 1) * 9) := by
    rw [s.2.1, show (nI (l + 1) * 9 : Int32) = nI ((l + 1) * 9) from nI_mul (l + 1) 9]
    by_cases c : (l + 1) * 9 ≤ sm th n
    · rw [nI_sub c]
      by_cases d : 0 < sm th n - (l + 1) * 9
      · rw [if_pos (by rw [tlt, l0, tnI (by omega)]; omega)]
      · rw [if_neg (by rw [tlt, l0, tnI (by omega)]; omega), show sm th n - (l + 1) * 9 = 0 by omega]; rfl
    · have r : (nI (sm th n) - nI ((l + 1) * 9) : Int32).toInt = (sm th n : Int) - ((l + 1) * 9 : Nat) := by
        rw [Int32.toInt_sub, tnI (by omega), tnI (by omega)]
        exact Int.bmod_eq_of_le (by omega) (by omega)
      rw [if_neg (by rw [tlt, l0, r]; omega), show sm th n - (l + 1) * 9 = 0 by omega]; rfl
  unfold fX2_workOutWith
  rw [e]
  exact g1 FU (by rw [FU_eq]; omega)
theorem loop141 {wh th : Nat → Nat} {A : Nat → Nat → Nat} {ex : Nat → Bool} {n D x1 : Nat} {vi : VI} (s : SB wh th A ex n (n + 1) vi) (n12 : n ≤ 12) (hg : sm th n ≤ 81) (hD : D ≤ 9) (hA : ∀ m c, m ≤ n → c < 60 → A m c ≤ 9) : ∀ (d l : Nat) (vl : VL), D - l = d → l ≤ D → TW wh th A ex n (l * 82 + (sm th n + 1)) vl → ∃ vl', (∀ F, d < F → fX2_workOut_141 x1 F (nI D) (nI (l + 1)) vi vl = some (vi, vl')) ∧ TW wh th A ex n (D * 82 + (sm th n + 1)) vl' ∧ ∀ a i, a ≠ 17 → vl' a i = vl a i := by
  intro d
  induction d with
  | zero =>
    intro l vl hd hl hT
    obtain rfl : l = D := by omega
    refine ⟨vl, fun F hF => ?_, hT, fun _ _ _ => rfl⟩
    obtain ⟨F, rfl⟩ : ∃ F', F = F' + 1 := ⟨F - 1, by omega⟩
    exact if_pos (by rw [tlt, tnI (by omega), tnI (by omega)]; omega)
  | succ d ih =>
    intro l vl hd hl hT
    obtain ⟨vl1, g1, g2, g3⟩ := with_eq (l := l) s n12 hg (by omega) hA hT
    obtain ⟨vl', f1, f2, f3⟩ := ih (l + 1) vl1 (by omega) (by omega) g2
    refine ⟨vl', fun F hF => ?_, f2, fun a i q => (f3 a i q).trans (g3 a i q)⟩
    obtain ⟨F, rfl⟩ : ∃ F', F = F' + 1 := ⟨F - 1, by omega⟩
    refine (if_neg (by rw [tlt, tnI (by omega), tnI (by omega)]; omega)).trans ((if_neg (by rw [tlt, tnI (by omega), l9]; omega)).trans ?_)
    rw [g1, Option.bind_some, nI_1]
    exact f1 F (by omega)
