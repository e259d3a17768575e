/-! Days: the model's table -/
def MD (n : Nat) (wh th : Nat → Nat) (A : Nat → Nat → Nat) (x3 : Int32) (vm : VI) : Prop := n ≤ 12 ∧ vm 63 30 = nI n ∧ (∀ k, k < n → vm 82 k = nI (wh k) ∧ vm 83 k = nI (th k) ∧ wh k < 6 ∧ th k ≤ 99) ∧ (∀ k c, k < 10 → c < 60 → vm 85 (60 * k + c) = nI (A k c) ∧ A k c ≤ 9) ∧ vm 63 36 = x3
def ok' (n : Nat) (th : Nat → Nat) (m t : Nat) : Prop := m ≤ min n 9 ∧ (m = 0 → t = 0) ∧ (0 < m → t ≤ th (m - 1))
def MW (wh th : Nat → Nat) (A : Nat → Nat → Nat) (ex : Nat → Bool) (n a : Nat) (vl : VL) : Prop := ∀ l m t, l ≤ 9 → ok' n th m t → (l * 10 + m) * 100 + t < a → vl 84 ((l * 10 + m) * 100 + t) = nL (wy wh th A ex n (min n 9) l m t)
theorem ok_99 {n : Nat} {wh th : Nat → Nat} {A : Nat → Nat → Nat} {x3 : Int32} {vm : VI} {m t : Nat} (h : MD n wh th A x3 vm) (o : ok' n th m t) : t ≤ 99 := by
  obtain ⟨o1, o2, o3⟩ := o
  by_cases z : m = 0
  · have := o2 z; omega
  · have := o3 (by omega)
    have := (h.2.2.1 (m - 1) (by omega)).2.2.2
    omega
theorem way_eq (l m t : Nat) : fX10_wayAt (nI l) (nI m) (nI t) = some (nI ((l * 10 + m) * 100 + t)) := by
  unfold fX10_wayAt
  rw [show (10 : Int32) = nI 10 from rfl, show (100 : Int32) = nI 100 from rfl, nI_mul, nI_add, nI_mul, nI_add]
theorem nx_ok {n : Nat} {wh th : Nat → Nat} {A : Nat → Nat → Nat} {c m t : Nat} {s : Nat × Nat} (o : ok' n th m t) (h : nx wh th A (min n 9) c m t = some s) : ok' n th s.1 s.2 := by
  obtain ⟨v1, v2, v3⟩ := o
  unfold nx at h
  by_cases a : A m c = 0
  · rw [if_pos a] at h; cases h; exact ⟨v1, v2, v3⟩
  · rw [if_neg a] at h
    by_cases b : 0 < m ∧ wh (m - 1) = c / 10
    · rw [if_pos b] at h
      by_cases d : t + A m c ≤ th (m - 1)
      · rw [if_pos d] at h; cases h
        exact ⟨v1, fun q => absurd q (by omega), fun q => d⟩
      · rw [if_neg d] at h; cases h
    · rw [if_neg b] at h
      by_cases d : (m = 0 ∨ t = th (m - 1)) ∧ m < min n 9 ∧ wh m = c / 10 ∧ A m c ≤ th m
      · rw [if_pos d] at h; cases h
        exact ⟨by show m + 1 ≤ min n 9; omega, fun q => absurd q (by show m + 1 ≠ 0; omega), fun _ => d.2.2.2⟩
      · rw [if_neg d] at h; cases h
theorem by105 {n : Nat} {wh th : Nat → Nat} {A : Nat → Nat → Nat} {x3 : Int32} {vm : VI} {vl : VL} {l m t c : Nat} (h : MD n wh th A x3 vm) (hl : l + 1 ≤ 9) (o : ok' n th m t) (hc : c < 60) (z : A m c ≠ 0) (b : ¬ (0 < m ∧ wh (m - 1) = c / 10)) (e : m = 0 ∨ t = th (m - 1)) : fX10_waysBy_105 vm vl (nI (l + 1)) (nI m) (nI c) (nI (A m c)) = some ((nx wh th A (min n 9) c m t).elim 0 fun s => vl 84 ((l * 10 + s.1) * 100 + s.2)) := by
  obtain ⟨h1, h2, h3, h4, h5⟩ := h
  have hm := o.1
  have hA := (h4 m c (by omega) hc).2
  have nxe : nx wh th A (min n 9) c m t = if (m = 0 ∨ t = th (m - 1)) ∧ m < min n 9 ∧ wh m = c / 10 ∧ A m c ≤ th m then some (m + 1, A m c) else none := (if_neg z).trans (if_neg b)
  unfold fX10_waysBy_105
  by_cases d : m < min n 9
  · obtain ⟨w1, w2, w3, w4⟩ := h3 m (by omega)
    have e1 : (nI (l + 1) - 1 : Int32) = nI l := nI_sub (a := l + 1) (b := 1) (by omega)
    rw [if_neg (by rw [h2, nI_inj (by omega) (by omega)]; omega), if_neg (by rw [tle, tnI (by omega), l9]; omega), if_inb (by rw [tnI (by omega)]; omega), nI_clamp (by omega), w1, w2, c_div hc]
    by_cases f : wh m = c / 10
    · rw [if_pos (by rw [f]), if_inb (by rw [tnI (by omega)]; omega)]
      by_cases g : A m c ≤ th m
      · rw [if_pos (by rw [tle, tnI (by omega), tnI (by omega)]; omega), e1, nI_1, way_eq, Option.bind_some, if_inb (by rw [tnI (by omega)]; omega), nI_clamp (by omega), nxe, if_pos ⟨e, d, f, g⟩]; rfl
      · rw [if_neg (by rw [tle, tnI (by omega), tnI (by omega)]; omega), nxe, if_neg fun q => g q.2.2.2]; rfl
    · rw [if_neg (by rw [nI_inj (by omega) (by omega)]; exact f), nxe, if_neg fun q => f q.2.2.1]; rfl
  · have r : (none : Option (Nat × Nat)).elim (0 : Int64) (fun s => vl 84 ((l * 10 + s.1) * 100 + s.2)) = 0 := rfl
    have nn : nx wh th A (min n 9) c m t = none := nxe.trans (if_neg fun q => d q.2.1)
    rw [nn, r]
    by_cases f : m = n
    · exact if_pos (by rw [h2, f])
    · exact (if_neg (by rw [h2, nI_inj (by omega) (by omega)]; exact f)).trans (if_pos (by rw [tle, tnI (by omega), l9]; omega))
theorem by89 {n : Nat} {wh th : Nat → Nat} {A : Nat → Nat → Nat} {x3 : Int32} {vm : VI} {vl : VL} {l m t c : Nat} (h : MD n wh th A x3 vm) (hl : l + 1 ≤ 9) (o : ok' n th m t) (hc : c < 60) (z : A m c ≠ 0) (b : ¬ (0 < m ∧ wh (m - 1) = c / 10)) : fX10_waysBy_89 vm vl (nI (l + 1)) (nI m) (nI t) (nI c) (nI (A m c)) = some ((nx wh th A (min n 9) c m t).elim 0 fun s => vl 84 ((l * 10 + s.1) * 100 + s.2)) := by
  have hm := o.1
  have ht := ok_99 h o
  unfold fX10_waysBy_89
  by_cases e : m = 0
  · rw [if_pos ((n_le0 (by omega)).2 e), by105 h hl o hc z b (Or.inl e)]
  · obtain ⟨q, rfl⟩ : ∃ q, m = q + 1 := ⟨m - 1, by omega⟩
    have e1 : (nI (q + 1) - 1 : Int32) = nI q := nI_sub (a := q + 1) (b := 1) (by omega)
    have w := h.2.2.1 q (by have := h.1; omega)
    rw [if_neg fun r => e ((n_le0 (by omega)).1 r), e1, if_inb (by rw [tnI (by omega)]; omega), nI_clamp (by omega), w.2.1]
    by_cases f : t = th q
    · rw [if_pos (by rw [f]), by105 h hl o hc z b (Or.inr f)]
    · have nn : nx wh th A (min n 9) c (q + 1) t = none := (if_neg z).trans ((if_neg b).trans (if_neg fun r => by
        rcases r.1 with r | r
        · exact e r
        · exact f r))
      rw [if_neg (by rw [nI_inj (by omega) (by omega)]; exact f), nn]; rfl
theorem by_eq {n : Nat} {wh th : Nat → Nat} {A : Nat → Nat → Nat} {x3 : Int32} {vm : VI} {vl : VL} {l m t c : Nat} (h : MD n wh th A x3 vm) (hl : l + 1 ≤ 9) (o : ok' n th m t) (hc : c < 60) : fX10_waysBy (nI (l + 1)) (nI m) (nI t) (nI c) vm vl = some ((nx wh th A (min n 9) c m t).elim 0 fun s => vl 84 ((l * 10 + s.1) * 100 + s.2)) := by
  have hm := o.1
  have ht := ok_99 h o
  have hA := h.2.2.2.1 m c (by omega) hc
  have e0 : (60 * nI m + nI c : Int32) = nI (60 * m + c) := by rw [show (60 : Int32) = nI 60 from rfl, nI_mul, nI_add]
  have el : (nI (l + 1) - 1 : Int32) = nI l := nI_sub (a := l + 1) (b := 1) (by omega)
  unfold fX10_waysBy
  rw [e0, if_inb (by rw [tnI (by omega)]; omega), nI_clamp (by omega), hA.1, el]
  by_cases z : A m c = 0
  · have nn : nx wh th A (min n 9) c m t = some (m, t) := if_pos z
    rw [if_pos (by rw [z]; rfl), way_eq, Option.bind_some, if_inb (by rw [tnI (by omega)]; omega), nI_clamp (by omega), nn]; rfl
  · rw [if_neg (by rw [← t00, nI_inj (by omega) (by omega)]; exact z)]
    by_cases e : m = 0
    · rw [if_pos ((n_le0 (by omega)).2 e), by89 h hl o hc z (by omega)]
    · obtain ⟨q, rfl⟩ : ∃ q, m = q + 1 := ⟨m - 1, by omega⟩
      have e1 : (nI (q + 1) - 1 : Int32) = nI q := nI_sub (a := q + 1) (b := 1) (by omega)
      have w := h.2.2.1 q (by have := h.1; omega)
      rw [if_neg fun r => e ((n_le0 (by omega)).1 r), e1, if_inb (by rw [tnI (by omega)]; omega), nI_clamp (by omega), w.1, c_div hc]
      by_cases b : wh q = c / 10
      · have b' : 0 < q + 1 ∧ wh (q + 1 - 1) = c / 10 := ⟨by omega, b⟩
        rw [if_pos (by rw [b]), if_inb (by rw [tnI (by omega)]; omega), w.2.1, nI_add]
        by_cases d : t + A (q + 1) c ≤ th q
        · have nn : nx wh th A (min n 9) c (q + 1) t = some (q + 1, t + A (q + 1) c) := (if_neg z).trans ((if_pos b').trans (if_pos d))
          rw [if_neg (by rw [tlt, tnI (by omega), tnI (by omega)]; omega), way_eq, Option.bind_some, if_inb (by rw [tnI (by omega)]; omega), nI_clamp (by omega), nn]; rfl
        · have nn : nx wh th A (min n 9) c (q + 1) t = none := (if_neg z).trans ((if_pos b').trans (if_neg d))
          rw [if_pos (by rw [tlt, tnI (by omega), tnI (by omega)]; omega), nn]; rfl
      · have b' : ¬ (0 < q + 1 ∧ wh (q + 1 - 1) = c / 10) := fun r => b r.2
        rw [if_neg (by rw [nI_inj (by omega) (by omega)]; exact b), by89 h hl o hc z b']
theorem by_val {n : Nat} {wh th : Nat → Nat} {A : Nat → Nat → Nat} {ex : Nat → Bool} {x3 : Int32} {vm : VI} {vl : VL} {l m t c a : Nat} (h : MD n wh th A x3 vm) (hl : l + 1 ≤ 9) (o : ok' n th m t) (hc : c < 60) (hw : MW wh th A ex n a vl) (ha : (l + 1) * 1000 ≤ a) : fX10_waysBy (nI (l + 1)) (nI m) (nI t) (nI c) vm vl = some (nL ((nx wh th A (min n 9) c m t).elim 0 fun s => wy wh th A ex n (min n 9) l s.1 s.2)) := by
  rw [by_eq h hl o hc]
  cases q : nx wh th A (min n 9) c m t with
  | none => rfl
  | some s =>
    have o' := nx_ok o q
    have := ok_99 h o'
    have := o'.1
    show some (vl 84 ((l * 10 + s.1) * 100 + s.2)) = some (nL (wy wh th A ex n (min n 9) l s.1 s.2))
    rw [hw l s.1 s.2 (by omega) o' (by omega)]
theorem sum40 {n : Nat} {wh th : Nat → Nat} {A : Nat → Nat → Nat} {ex : Nat → Bool} {x3 : Int32} {vm : VI} {vl : VL} {l m t a : Nat} (h : MD n wh th A x3 vm) (hx : ∀ c, c < 60 → (ex c = true ↔ nI (c / 10) = x3)) (hl : l + 1 ≤ 9) (o : ok' n th m t) (hw : MW wh th A ex n a vl) (ha : (l + 1) * 1000 ≤ a) : ∀ (d c F : Nat), 60 - c = d → c ≤ 60 → d < F → fX10_sumWays_40 vm vl F (nI (l + 1)) (nI m) (nI t) (nL (sm (fun c => if ex c = true then 0 else (nx wh th A (min n 9) c m t).elim 0 fun s => wy wh th A ex n (min n 9) l s.1 s.2) c)) (nI c) = some (nL (wy wh th A ex n (min n 9) (l + 1) m t)) := by
  intro d
  induction d with
  | zero =>
    intro c F hd hc hF
    obtain ⟨F, rfl⟩ : ∃ F', F = F' + 1 := ⟨F - 1, by omega⟩
    obtain rfl : c = 60 := by omega
    exact if_pos (by decide)
  | succ d ih =>
    intro c F hd hc hF
    obtain ⟨F, rfl⟩ : ∃ F', F = F' + 1 := ⟨F - 1, by omega⟩
    have hc' : c < 60 := by omega
    have nxt := ih (c + 1) F (by omega) (by omega) (by omega)
    have st : sm (fun c => if ex c = true then 0 else (nx wh th A (min n 9) c m t).elim 0 fun s => wy wh th A ex n (min n 9) l s.1 s.2) (c + 1) = sm (fun c => if ex c = true then 0 else (nx wh th A (min n 9) c m t).elim 0 fun s => wy wh th A ex n (min n 9) l s.1 s.2) c + if ex c = true then 0 else (nx wh th A (min n 9) c m t).elim 0 fun s => wy wh th A ex n (min n 9) l s.1 s.2 := rfl
    refine (if_neg (by rw [tle, tnI (by omega), l60]; omega)).trans ?_
    unfold fX10_isWithout
    rw [c_div hc', h.2.2.2.2]
    by_cases e : ex c = true
    · rw [if_pos ((hx c hc').1 e), Option.bind_some, if_pos rfl]
      unfold fX10_sumWays_70
      rw [nI_1]
      rw [st, if_pos e, Nat.add_zero] at nxt
      exact nxt
    · rw [if_neg fun q => e ((hx c hc').2 q), Option.bind_some, if_neg (by exact Bool.noConfusion), by_val h hl o hc' hw ha, Option.bind_some]
      unfold fX10_sumWays_70
      rw [nI_1, nL_add]
      rw [st, if_neg e] at nxt
      exact nxt
theorem sum_eq {n : Nat} {wh th : Nat → Nat} {A : Nat → Nat → Nat} {ex : Nat → Bool} {x3 : Int32} {vm : VI} {vl : VL} {l m t a : Nat} (h : MD n wh th A x3 vm) (hx : ∀ c, c < 60 → (ex c = true ↔ nI (c / 10) = x3)) (hl : l + 1 ≤ 9) (hm : m ≤ 9) (ht : t ≤ 99) (hw : MW wh th A ex n a vl) (ha : (l + 1) * 1000 ≤ a) : ∃ v, fX10_sumWays (nI (l + 1)) (nI m) (nI t) vm vl = some v ∧ (ok' n th m t → v = nL (wy wh th A ex n (min n 9) (l + 1) m t)) := by
  have go : ok' n th m t → fX10_sumWays_34 vm vl (nI (l + 1)) (nI m) (nI t) = some (nL (wy wh th A ex n (min n 9) (l + 1) m t)) := fun o => by
    unfold fX10_sumWays_34
    exact sum40 h hx hl o hw ha 60 0 FU (by omega) (by omega) (by rw [FU_eq]; omega)
  have n12 := h.1
  unfold fX10_sumWays
  rw [h.2.1]
  by_cases c1 : n < m
  · exact ⟨0, if_pos (by rw [tlt, tnI (by omega), tnI (by omega)]; omega), fun o => absurd o.1 (by omega)⟩
  · rw [if_neg (by rw [tlt, tnI (by omega), tnI (by omega)]; omega)]
    by_cases c2 : m = 0
    · subst c2
      rw [if_pos (show nI 0 = (0 : Int32) from rfl)]
      by_cases c3 : 0 < t
      · exact ⟨0, if_pos (by rw [tlt, tnI (by omega), l0]; omega), fun o => absurd (o.2.1 rfl) (by omega)⟩
      · rw [if_neg (by rw [tlt, tnI (by omega), l0]; omega)]
        unfold fX10_sumWays_16
        rw [if_pos ((n_le0 (by omega)).2 rfl)]
        exact ⟨_, go ⟨by omega, fun _ => by omega, fun q => absurd q (by omega)⟩, fun _ => rfl⟩
    · rw [if_neg (by rw [← t00, nI_inj (by omega) (by omega)]; exact c2)]
      obtain ⟨q, rfl⟩ : ∃ q, m = q + 1 := ⟨m - 1, by omega⟩
      have e1 : (nI (q + 1) - 1 : Int32) = nI q := nI_sub (a := q + 1) (b := 1) (by omega)
      have w := h.2.2.1 q (by omega)
      unfold fX10_sumWays_16
      rw [if_neg fun r => c2 ((n_le0 (by omega)).1 r), e1, if_inb (by rw [tnI (by omega)]; omega), nI_clamp (by omega), w.2.1]
      by_cases c4 : t ≤ th q
      · rw [if_pos (by rw [tle, tnI (by omega), tnI (by omega)]; omega)]
        exact ⟨_, go ⟨by omega, fun r => absurd r c2, fun _ => c4⟩, fun _ => rfl⟩
      · exact ⟨0, if_neg (by rw [tle, tnI (by omega), tnI (by omega)]; omega), fun o => absurd (o.2.2 (by omega)) c4⟩
theorem there_eq {n : Nat} {wh th : Nat → Nat} {A : Nat → Nat → Nat} {ex : Nat → Bool} {x3 : Int32} {vm : VI} {m t : Nat} (h : MD n wh th A x3 vm) (hm : m ≤ 9) (ht : t ≤ 99) : ∃ v, fX10_isThere (nI m) (nI t) vm = some v ∧ (ok' n th m t → v = nL (wy wh th A ex n (min n 9) 0 m t)) := by
  have n12 := h.1
  have w : wy wh th A ex n (min n 9) 0 m t = if m = n ∧ (m = 0 ∨ t = th (m - 1)) then 1 else 0 := rfl
  unfold fX10_isThere fX10_isThere_31
  rw [h.2.1, w]
  by_cases c1 : m = n
  · rw [if_pos (by rw [c1])]
    by_cases c2 : m = 0
    · subst c2
      rw [if_pos (show nI 0 = (0 : Int32) from rfl)]
      by_cases c3 : t = 0
      · subst c3
        exact ⟨1, if_pos rfl, fun _ => by rw [if_pos ⟨c1, Or.inl rfl⟩]; rfl⟩
      · exact ⟨0, if_neg (by rw [← t00, nI_inj (by omega) (by omega)]; exact c3), fun o => absurd (o.2.1 rfl) c3⟩
    · rw [if_neg (by rw [← t00, nI_inj (by omega) (by omega)]; exact c2)]
      obtain ⟨q, rfl⟩ : ∃ q, m = q + 1 := ⟨m - 1, by omega⟩
      have e1 : (nI (q + 1) - 1 : Int32) = nI q := nI_sub (a := q + 1) (b := 1) (by omega)
      have k := h.2.2.1 q (by omega)
      rw [e1, if_inb (by rw [tnI (by omega)]; omega), nI_clamp (by omega), k.2.1]
      by_cases c3 : t = th q
      · exact ⟨1, if_pos (by rw [c3]), fun _ => by rw [if_pos ⟨c1, Or.inr c3⟩]; rfl⟩
      · have nr : ¬ (q + 1 = n ∧ (q + 1 = 0 ∨ t = th (q + 1 - 1))) := fun r => by
          rcases r.2 with r | r
          · exact c2 r
          · exact c3 r
        exact ⟨0, if_neg (by rw [nI_inj (by omega) (by omega)]; exact c3), fun _ => by rw [if_neg nr]; rfl⟩
  · exact ⟨0, if_neg (by rw [nI_inj (by omega) (by omega)]; exact c1), fun _ => by rw [if_neg fun r => c1 r.1]; rfl⟩
