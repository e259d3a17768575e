/-! EVALUATION: a part, a line, a TEXT -/
def SegAt (vc vm : VI) (ob c q : Nat) (l : List Int32) : Prop := ∀ i, i < l.length → vc ob (c + i) = l.getD i 0 ∧ stepIs (l.getD i 0) (vm 75 (q + i)) (vm 76 (q + i))
theorem stepIs_ne {c a w : Int32} (h : stepIs c a w) : c ≠ 20059 ∧ c ≠ 20063 := by
  have key : ∀ {n : Nat}, n < 2147483648 → n ≠ 20059 → n ≠ 20063 → (nI n ≠ 20059 ∧ nI n ≠ 20063) := by
    intro n h1 h2 h3
    refine ⟨fun q => ?_, fun q => ?_⟩
    · rw [teq, tnI h1, show (20059 : Int32).toInt = 20059 from rfl] at q; omega
    · rw [teq, tnI h1, show (20063 : Int32).toInt = 20063 from rfl] at q; omega
  rcases h with ⟨c0, c1, -, -⟩ | ⟨n, hn6, rfl, -, -⟩ | ⟨rfl, -⟩ | ⟨rfl, -⟩ | ⟨g, hg, rfl, -⟩
  · refine ⟨fun q => ?_, fun q => ?_⟩
    · rw [q, show (20059 : Int32).toInt = 20059 from rfl] at c1; omega
    · rw [q, show (20063 : Int32).toInt = 20063 from rfl] at c1; omega
  · exact key (by omega) (by omega) (by omega)
  · decide
  · decide
  · have hg2 : 37 ≤ g ∧ g < 125 ∧ g ≠ 59 ∧ g ≠ 63 := by simp [signs] at hg; omega
    exact key (by omega) (by omega) (by omega)
theorem seg_tl {vc vm : VI} {ob c q : Nat} {a : Int32} {l : List Int32} (h : SegAt vc vm ob c q (a :: l)) : SegAt vc vm ob (c + 1) (q + 1) l := by
  intro i hi
  have := h (i + 1) (by simp; omega)
  rw [show c + (i + 1) = c + 1 + i by omega, show q + (i + 1) = q + 1 + i by omega] at this
  simpa using this
theorem seg_fr {vc vm vc' vm' : VI} {ob c q : Nat} {l : List Int32} (h : SegAt vc vm ob c q l) (h1 : ∀ i, vc' ob i = vc ob i) (h2 : ∀ o i, o = 75 ∨ o = 76 → vm' o i = vm o i) : SegAt vc' vm' ob c q l := by
  intro i hi
  rw [h1, h2 75 _ (Or.inl rfl), h2 76 _ (Or.inr rfl)]
  exact h i hi
theorem seg_both {r e S : Nat} (hr : r < 2) (he2 : e ≤ 130) (hS : S ≤ 121) : ∀ (l : List Int32) (p q h h' : Nat) (vc vm : VI), Stk vc vm h → (∀ i, i < 6 → vc 7 i = vm 80 i) → hrun l h = some h' → h + l.length ≤ 121 → SegAt vc vm 6 p q l → vc 5 1 = nI S → p + l.length ≤ S → q + l.length ≤ 130 * r + e → ∃ vc' vm', (∀ F, fX5_worth_72 5 (F + l.length) (nI p) vc = fX5_worth_72 5 F (nI (p + l.length)) vc') ∧ (∀ o i, ¬ (o = 5 ∧ i = 5) → o ≠ 8 → vc' o i = vc o i) ∧ (∀ F, fX10_worked_12 (F + l.length) (nI r) (nI e) (nI h) (nI q) vm = fX10_worked_12 F (nI r) (nI e) (nI h') (nI (q + l.length)) vm') ∧ (∀ o i, o ≠ 81 → vm' o i = vm o i) ∧ Stk vc' vm' h' := by
  intro l
  induction l with
  | nil =>
    intro p q h h' vc vm hs hn hh h1 hseg hsz h2 h3
    have := Option.some.inj hh
    subst this
    exact ⟨vc, vm, fun F => rfl, fun _ _ _ _ => rfl, fun F => rfl, fun _ _ _ => rfl, hs⟩
  | cons c l ih =>
    intro p q h h' vc vm hs hn hh h1 hseg hsz h2 h3
    simp only [List.length_cons] at h1 h2 h3
    unfold hrun at hh
    cases hc : hst c h with
    | none => rw [hc] at hh; cases hh
    | some k =>
      rw [hc, Option.bind_some] at hh
      obtain ⟨g1, g2⟩ := hseg 0 (by simp)
      simp only [Nat.add_zero, List.getD_cons_zero] at g1 g2
      obtain ⟨vc1, w1, w2, vm1, w3, w4, w5⟩ := step_both hs hn (by omega) hr hc (q := q) (e := e) (by omega) (by omega) he2 g2
      have hk : k ≤ h + 1 := by
        unfold hst at hc
        split at hc
        · have := Option.some.inj hc; omega
        · split at hc
          · split at hc
            · cases hc
            · have := Option.some.inj hc; omega
          · split at hc
            · cases hc
            · have := Option.some.inj hc; omega
      obtain ⟨vc2, vm2, y1, y2, y3, y4, y5⟩ := ih (p + 1) (q + 1) k h' vc1 vm1 w5 (fun i hi => by rw [w2 7 i (by omega) (by omega), w4 80 i (by omega)]; exact hn i hi) hh (by omega) (seg_fr (seg_tl hseg) (fun i => w2 6 i (by omega) (by omega)) (fun o i ho => w4 o i (by omega))) (by rw [w2 5 1 (by omega) (by omega)]; exact hsz) (by omega) (by omega)
      refine ⟨vc2, vm2, fun F => ?_, fun o i q1 q2 => (y2 o i q1 q2).trans (w2 o i q1 q2), fun F => ?_, fun o i q1 => (y4 o i q1).trans (w4 o i q1), y5⟩
      · rw [List.length_cons, ← Nat.add_assoc, fX5_worth_72, hsz]
        simp only [Nat.reduceAdd]
        rw [if_neg (by rw [tle, tnI (by omega), tnI (by omega)]; omega), if_inb (by rw [tnI (by omega)]; omega), nI_clamp (by omega), g1, if_neg (stepIs_ne g2).1, if_neg (stepIs_ne g2).2, w1, Option.bind_some]
        unfold fX5_worth_135
        rw [nI_1, y1 F, show p + 1 + l.length = p + (l.length + 1) by omega]
      · rw [List.length_cons, ← Nat.add_assoc, w3, y3 F, show q + 1 + l.length = q + (l.length + 1) by omega]
/-- a whole part from an empty stack -/
theorem expr_both {r S p s : Nat} {l : List Int32} {vc vm : VI} (hr : r < 2) (hS : S ≤ 121) (h0 : vc 5 5 = nI 0) (hn : ∀ i, i < 6 → vc 7 i = vm 80 i) (hh : hrun l 0 = some 1) (hseg : SegAt vc vm 6 p (130 * r + s) l) (hsz : vc 5 1 = nI S) (h2 : p + l.length ≤ S) (h3 : s + l.length ≤ 130) : ∃ vc' vm', (∀ F, fX5_worth_72 5 (F + l.length) (nI p) vc = fX5_worth_72 5 F (nI (p + l.length)) vc') ∧ (∀ o i, ¬ (o = 5 ∧ i = 5) → o ≠ 8 → vc' o i = vc o i) ∧ vc' 5 5 = nI 1 ∧ fX10_worked (nI r) (nI s) (nI (s + l.length)) vm = some (vc' 8 0, vm') ∧ ∀ o i, o ≠ 81 → vm' o i = vm o i := by
  obtain ⟨vc', vm', y1, y2, y3, y4, y5⟩ := seg_both (e := s + l.length) hr h3 hS l p (130 * r + s) 0 1 vc vm ⟨h0, fun i hi => absurd hi (by omega)⟩ hn hh (by omega) hseg hsz h2 (by omega)
  refine ⟨vc', vm', y1, y2, y5.1, ?_, y4⟩
  unfold fX10_worked
  have e130 : (130 * nI r + nI s : Int32) = nI (130 * r + s) := by rw [show (130 : Int32) = nI 130 from rfl, pk_mul, nI_add]
  have e130' : (130 * nI r + nI (s + l.length) : Int32) = nI (130 * r + (s + l.length)) := by rw [show (130 : Int32) = nI 130 from rfl, pk_mul, nI_add]
  rw [e130]
  obtain ⟨F, hF⟩ : ∃ F, FU = F + 1 + l.length := ⟨FU - 1 - l.length, by rw [FU_eq]; omega⟩
  rw [hF, show (0 : Int32) = nI 0 from rfl, y3, fX10_worked_12, e130', if_pos (by rw [tle, tnI (by omega), tnI (by omega)]; omega)]
  rw [y5.2 0 (by omega)]; rfl
def tl0 (t : List Int32) : Nat := if t = [] then 0 else t.length + 1
def linesAt (vc vm : VI) (ob r : Nat) : List (List Int32 × List Int32) → Nat → Nat → Nat → Prop
  | [], _, _, _ => True
  | (t, v) :: T, j, c, s => hrun v 0 = some 1 ∧ (t = [] ∨ hrun t 0 = some 1) ∧ vm 78 (61 * r + j) = nI (s + t.length) ∧ vm 79 (61 * r + j) = nI (s + t.length + v.length) ∧ SegAt vc vm ob c (130 * r + s) t ∧ (t ≠ [] → vc ob (c + t.length) = 20063) ∧ SegAt vc vm ob (c + tl0 t) (130 * r + (s + t.length)) v ∧ vc ob (c + tl0 t + v.length) = 20059 ∧ linesAt vc vm ob r T (j + 1) (c + tl0 t + v.length + 1) (s + t.length + v.length)
def csz : List (List Int32 × List Int32) → Nat
  | [] => 0
  | (t, v) :: T => tl0 t + v.length + 1 + csz T
def ssz : List (List Int32 × List Int32) → Nat
  | [] => 0
  | (t, v) :: T => t.length + v.length + ssz T
theorem lines_fr {vc vm vc' vm' : VI} {ob r : Nat} (h1 : ∀ i, vc' ob i = vc ob i) (h2 : ∀ o i, 75 ≤ o → o ≤ 79 → vm' o i = vm o i) : ∀ (T : List (List Int32 × List Int32)) (j c s : Nat), linesAt vc vm ob r T j c s → linesAt vc' vm' ob r T j c s := by
  intro T
  induction T with
  | nil => intros; trivial
  | cons tv T ih =>
    intro j c s h
    obtain ⟨t, v⟩ := tv
    obtain ⟨a1, a2, a3, a4, a5, a6, a7, a8, a9⟩ := h
    exact ⟨a1, a2, (h2 78 _ (by omega) (by omega)).trans a3, (h2 79 _ (by omega) (by omega)).trans a4, seg_fr a5 h1 (fun o i q => h2 o i (by omega) (by omega)), fun q => (h1 _).trans (a6 q), seg_fr a7 h1 (fun o i q => h2 o i (by omega) (by omega)), (h1 _).trans a8, ih _ _ _ a9⟩
theorem seg_gen {vc vm vc' vm' : VI} {ob ob' c q q' : Nat} {l : List Int32} (h : SegAt vc vm ob c q l) (h1 : ∀ i, i < l.length → vc' ob' (c + i) = vc ob (c + i) ∧ vm' 75 (q' + i) = vm 75 (q + i) ∧ vm' 76 (q' + i) = vm 76 (q + i)) : SegAt vc' vm' ob' c q' l := by
  intro i hi
  obtain ⟨e1, e2, e3⟩ := h1 i hi
  rw [e1, e2, e3]
  exact h i hi
theorem lines_gen {vc vm vc' vm' : VI} {ob ob' r r' : Nat} : ∀ (T : List (List Int32 × List Int32)) (j c s : Nat), (∀ i, c ≤ i → i < c + csz T → vc' ob' i = vc ob i) → (∀ k, s ≤ k → k < s + ssz T → vm' 75 (130 * r' + k) = vm 75 (130 * r + k) ∧ vm' 76 (130 * r' + k) = vm 76 (130 * r + k)) → (∀ i, j ≤ i → i < j + T.length → vm' 78 (61 * r' + i) = vm 78 (61 * r + i) ∧ vm' 79 (61 * r' + i) = vm 79 (61 * r + i)) → linesAt vc vm ob r T j c s → linesAt vc' vm' ob' r' T j c s := by
  intro T
  induction T with
  | nil => intros; trivial
  | cons tv T ih =>
    intro j c s h1 h2 h3 h
    obtain ⟨t, v⟩ := tv
    obtain ⟨a1, a2, a3, a4, a5, a6, a7, a8, a9⟩ := h
    simp only [csz] at h1
    simp only [ssz] at h2
    simp only [List.length_cons] at h3
    have ht : t = [] ∧ tl0 t = 0 ∨ t ≠ [] ∧ tl0 t = t.length + 1 := by
      by_cases q : t = []
      · exact Or.inl ⟨q, if_pos q⟩
      · exact Or.inr ⟨q, if_neg q⟩
    have ht2 : t.length ≤ tl0 t := by
      rcases ht with ⟨q, e⟩ | ⟨q, e⟩
      · rw [q]; exact Nat.zero_le _
      · omega
    refine ⟨a1, a2, ((h3 j (by omega) (by omega)).1).trans a3, ((h3 j (by omega) (by omega)).2).trans a4, seg_gen a5 (fun i hi => ⟨h1 (c + i) (by omega) (by omega), ?_, ?_⟩), fun q => ?_, seg_gen a7 (fun i hi => ⟨h1 _ (by omega) (by omega), ?_, ?_⟩), ?_, ih (j + 1) _ _ (fun i q1 q2 => h1 i (by omega) (by omega)) (fun k q1 q2 => h2 k (by omega) (by omega)) (fun i q1 q2 => h3 i (by omega) (by omega)) a9⟩
    · have := (h2 (s + i) (by omega) (by omega)).1
      rw [← Nat.add_assoc, ← Nat.add_assoc] at this
      exact this
    · have := (h2 (s + i) (by omega) (by omega)).2
      rw [← Nat.add_assoc, ← Nat.add_assoc] at this
      exact this
    · have e : tl0 t = t.length + 1 := if_neg q
      rw [h1 (c + t.length) (by omega) (by omega)]; exact a6 q
    · have := (h2 (s + t.length + i) (by omega) (by omega)).1
      rw [← Nat.add_assoc, ← Nat.add_assoc (130 * r)] at this
      exact this
    · have := (h2 (s + t.length + i) (by omega) (by omega)).2
      rw [← Nat.add_assoc, ← Nat.add_assoc (130 * r)] at this
      exact this
    · rw [h1 _ (by omega) (by omega)]; exact a8
theorem endLine {S : Nat} {vc : VI} (hsz : vc 5 1 = nI S) (hS : S ≤ 121) : ∀ (m x y F : Nat), y - x = m → m < F → x ≤ y → y < S → (∀ i, x ≤ i → i < y → vc 6 i ≠ 20059) → vc 6 y = 20059 → fX5_endOfLine_2 5 vc F (nI x) = some (nI y) := by
  intro m
  induction m with
  | zero =>
    intro x y F h1 h2 h3 h4 h5 h6
    obtain ⟨F, rfl⟩ : ∃ F', F = F' + 1 := ⟨F - 1, by omega⟩
    have : x = y := by omega
    subst this
    rw [fX5_endOfLine_2, hsz, if_neg (by rw [tle, tnI (by omega), tnI (by omega)]; omega), if_inb (by rw [tnI (by omega)]; omega), nI_clamp (by omega), if_pos h6]
  | succ m ih =>
    intro x y F h1 h2 h3 h4 h5 h6
    obtain ⟨F, rfl⟩ : ∃ F', F = F' + 1 := ⟨F - 1, by omega⟩
    rw [fX5_endOfLine_2, hsz, if_neg (by rw [tle, tnI (by omega), tnI (by omega)]; omega), if_inb (by rw [tnI (by omega)]; omega), nI_clamp (by omega), if_neg (h5 x (by omega) (by omega)), nI_1]
    exact ih (x + 1) y F (by omega) (by omega) (by omega) h4 (fun i a b => h5 i (by omega) b) h6
