/-! Days: the place behind one looking -/
theorem tells_lo {ns j n k : Nat} {wh th : Nat → Nat} {A : Nat → Nat → Nat} {vi : VI} {vl : VL} (h : DA ns j n wh th A vi vl) (hk : k ≤ n) : ∃ r1, fX3_tells (98 + 5 * j + 1) (nI k - 1) 0 vi = some r1 ∧ ∀ c, c < 60 → (r1 = nI (c / 10) ↔ (0 < k ∧ wh (k - 1) = c / 10)) := by
  have n12 := h.2.2.1
  have hw := h.2.2.2.2.1
  have t1 := tells_eq h.2.2.1 h.2.2.2.1 (nI k - 1) 0
  refine ⟨_, (show fX3_tells (98 + 5 * j + 1) (nI k - 1) 0 vi = fX3_tells (99 + 5 * j) (nI k - 1) 0 vi by rw [show 98 + 5 * j + 1 = 99 + 5 * j by omega]).trans t1, fun c hc => eq_comm.trans ?_⟩
  by_cases k0 : k = 0
  · subst k0
    rw [if_neg (by intro q; exact absurd q.1 (by decide))]
    exact ⟨fun q => absurd (congrArg Int32.toInt q) (by rw [tnI (by omega), lm2]; omega), fun q => absurd q.1 (by omega)⟩
  · obtain ⟨p, rfl⟩ : ∃ p, k = p + 1 := ⟨k - 1, by omega⟩
    have e : (nI (p + 1) - 1 : Int32) = nI p := nI_sub (a := p + 1) (b := 1) (by omega)
    rw [e, tnI (by omega), if_pos (by omega), if_pos rfl]
    show nI (c / 10) = vi (99 + 5 * j + 1) p ↔ (0 < p + 1 ∧ wh p = c / 10)
    have hp := hw p (by omega)
    rw [show 99 + 5 * j + 1 = 100 + 5 * j by omega, hp.1, nI_inj (by omega) (by omega)]
    omega
theorem tells_hi {ns j n k : Nat} {wh th : Nat → Nat} {A : Nat → Nat → Nat} {vi : VI} {vl : VL} (h : DA ns j n wh th A vi vl) (hk : k ≤ n) : ∃ r2, fX3_tells (98 + 5 * j + 1) (nI k) 0 vi = some r2 ∧ ∀ c, c < 60 → (r2 = nI (c / 10) ↔ (k < n ∧ wh k = c / 10)) := by
  have n12 := h.2.2.1
  have hw := h.2.2.2.2.1
  have t2 := tells_eq h.2.2.1 h.2.2.2.1 (nI k) 0
  refine ⟨_, (show fX3_tells (98 + 5 * j + 1) (nI k) 0 vi = fX3_tells (99 + 5 * j) (nI k) 0 vi by rw [show 98 + 5 * j + 1 = 99 + 5 * j by omega]).trans t2, fun c hc => eq_comm.trans ?_⟩
  rw [tnI (by omega)]
  by_cases k0 : k < n
  · rw [if_pos (by omega), if_pos rfl]
    show nI (c / 10) = vi (99 + 5 * j + 1) k ↔ (k < n ∧ wh k = c / 10)
    have hp := hw k k0
    rw [show 99 + 5 * j + 1 = 100 + 5 * j by omega, hp.1, nI_inj (by omega) (by omega)]
    omega
  · rw [if_neg (by omega)]
    exact ⟨fun q => absurd (congrArg Int32.toInt q) (by rw [tnI (by omega), lm2]; omega), fun q => absurd q.1 k0⟩
theorem sb_keep {n k : Nat} {wh th : Nat → Nat} {A : Nat → Nat → Nat} {ex : Nat → Bool} {vi vi' : VI} (s : SB wh th A ex n k vi) (hf : ∀ a i, 9 ≤ a → a ≤ 22 → vi' a i = vi a i) : SB wh th A ex n k vi' := by
  obtain ⟨s1, s2, s3, s4⟩ := s
  refine ⟨(hf _ _ (by omega) (by omega)).trans s1, (hf _ _ (by omega) (by omega)).trans s2, fun i hi => ?_, fun i q1 q2 => ?_⟩
  · obtain ⟨c1, c2, c3⟩ := s3 i hi
    exact ⟨(hf _ _ (by omega) (by omega)).trans c1, (hf _ _ (by omega) (by omega)).trans c2, fun a ha => ⟨(hf _ _ (by omega) (by omega)).trans (c3 a ha).1, (hf _ _ (by omega) (by omega)).trans (c3 a ha).2⟩⟩
  · obtain ⟨c1, c2⟩ := s4 i q1 q2
    exact ⟨(hf _ _ (by omega) (by omega)).trans c1, fun a ha => ⟨(hf _ _ (by omega) (by omega)).trans (c2 a ha).1, (hf _ _ (by omega) (by omega)).trans (c2 a ha).2⟩⟩
theorem behind {ns j n m t c : Nat} {wh th : Nat → Nat} {A : Nat → Nat → Nat} {ex : Nat → Bool} {vi : VI} {vl : VL} (h : DA ns j n wh th A vi vl) (s : SB wh th A ex n (n + 1) vi) (hg : sm th n ≤ 81) (hv : Vd th n m t) (hc : c < 60) : ∃ vi', fX2_placeBehind (98 + 5 * j) (nI (Pl th m t)) (nI c) vi = some ((nx wh th A n c m t).elim (-2) fun s => nI (Pl th s.1 s.2), vi') ∧ DA ns j n wh th A vi' vl ∧ SB wh th A ex n (n + 1) vi' := by
  have n12 := h.2.2.1
  have hm := hv.1
  have hp := pl_g hv
  have hhi := pl_hi hv
  have hgm := sm_mono (f := th) hm
  have hA9 := wo_A h m c hm hc
  obtain ⟨vi1, a1, a2, a3⟩ := da_gives h (k := m) (c := c) (by omega) hc
  have s' := sb_keep s (vi' := vi1) fun a i q1 q2 => a3 a i (by omega) (by omega) (by omega) (by have := h.1; omega)
  obtain ⟨r3, t3, q3⟩ := tells_lo a2 hm
  obtain ⟨r4, t4, q4⟩ := tells_hi a2 hm
  refine ⟨vi1, ?_, a2, s'⟩
  unfold fX2_placeBehind
  rw [lay_at s n12 hg hv, Option.bind_some, c_rem hc, c_div hc, a1, Option.bind_some]
  show (if nI (A m c) = 0 then some (nI (Pl th m t), vi1) else (fX3_tells (98 + 5 * j + 1) (nI m - 1) 0 vi1).bind fun r3 => if r3 = nI (c / 10) then if inb (nI m) 13 = true then if (vi1 18 (nI m).toNatClampNeg) < (nI (Pl th m t) + nI (A m c)) then some ((-2), vi1) else some ((nI (Pl th m t) + nI (A m c)), vi1) else none else (fX3_tells (98 + 5 * j + 1) (nI m) 0 vi1).bind fun r4 => if r4 = nI (c / 10) then (fX2_mayBegin (nI m) (nI (Pl th m t)) (nI (A m c)) vi1).bind fun r5 => if r5 = true then some ((nI (Pl th m t) + nI (A m c)), vi1) else some ((-2), vi1) else some ((-2), vi1)) = _
  by_cases z : A m c = 0
  · have n1 : nx wh th A n c m t = some (m, t) := if_pos z
    rw [if_pos (by rw [z]; rfl), n1]; rfl
  · rw [if_neg (by rw [← t00, nI_inj (by omega) (by omega)]; exact z), t3, Option.bind_some, nI_add]
    have gp : ∀ q, m = q + 1 → Pl th m t = sm th q + t ∧ sm th m = sm th q + th q ∧ m - 1 = q := fun q r => by
      subst r; exact ⟨if_neg (by omega), rfl, rfl⟩
    have g0 : m = 0 → Pl th m t = 0 ∧ sm th m = 0 := fun r => by subst r; exact ⟨if_pos rfl, rfl⟩
    have gs : sm th (m + 1) = sm th m + th m := rfl
    by_cases b : 0 < m ∧ wh (m - 1) = c / 10
    · obtain ⟨q, r⟩ : ∃ q, m = q + 1 := ⟨m - 1, by omega⟩
      obtain ⟨p1, p2, p3⟩ := gp q r
      rw [if_pos ((q3 c hc).2 b), if_inb (by rw [tnI (by omega)]; omega), nI_clamp (by omega), (s'.2.2.1 m (by omega)).1]
      by_cases d : t + A m c ≤ th (m - 1)
      · have n1 : nx wh th A n c m t = some (m, t + A m c) := (if_neg z).trans ((if_pos b).trans (if_pos d))
        obtain ⟨w1, w2⟩ := nx_valid hv n1
        rw [p3] at d
        rw [if_neg (by rw [tlt, tnI (by omega), tnI (by omega)]; omega), n1, ← w2]; rfl
      · have n1 : nx wh th A n c m t = none := (if_neg z).trans ((if_pos b).trans (if_neg d))
        rw [p3] at d
        rw [if_pos (by rw [tlt, tnI (by omega), tnI (by omega)]; omega), n1]; rfl
    · rw [if_neg fun k => b ((q3 c hc).1 k), t4, Option.bind_some]
      by_cases b2 : m < n ∧ wh m = c / 10
      · rw [if_pos ((q4 c hc).2 b2), begin_eq s' n12 hg hm (by omega) hA9, Option.bind_some]
        have pe : (Pl th m t = sm th m) ↔ (m = 0 ∨ t = th (m - 1)) := by
          by_cases m0 : m = 0
          · rw [(g0 m0).1, (g0 m0).2]; exact ⟨fun _ => Or.inl m0, fun _ => rfl⟩
          · obtain ⟨q, r⟩ : ∃ q, m = q + 1 := ⟨m - 1, by omega⟩
            obtain ⟨p1, p2, p3⟩ := gp q r
            rw [p1, p2, p3]; omega
        by_cases d : m < n ∧ Pl th m t = sm th m ∧ Pl th m t + A m c ≤ sm th (m + 1)
        · have n1 : nx wh th A n c m t = some (m + 1, A m c) := (if_neg z).trans ((if_neg b).trans (if_pos ⟨pe.1 d.2.1, d.1, b2.2, by omega⟩))
          obtain ⟨w1, w2⟩ := nx_valid hv n1
          rw [decide_eq_true d, if_pos rfl, n1, ← w2]; rfl
        · have n1 : nx wh th A n c m t = none := (if_neg z).trans ((if_neg b).trans (if_neg fun k => d ⟨k.2.1, pe.2 k.1, by have := pe.2 k.1; have := k.2.2.2; omega⟩))
          rw [decide_eq_false d, if_neg (by exact Bool.noConfusion), n1]; rfl
      · have n1 : nx wh th A n c m t = none := (if_neg z).trans ((if_neg b).trans (if_neg fun k => b2 ⟨k.2.1, k.2.2.1⟩))
        rw [if_neg fun k => b2 ((q4 c hc).1 k), n1]; rfl
/-- where nothing is known of the places, there is a place all the same -/
theorem lay_any {n : Nat} {vi : VI} (h : vi 16 5 = nI n) (n12 : n ≤ 12) (x : Int32) : ∀ (d i F : Nat), n - i = d → i ≤ n → d < F → ∃ m, m ≤ n ∧ fX2_layersAt_2 vi F x (nI i) = some (nI m) := by
  intro d
  induction d with
  | zero =>
    intro i F hd hi hF
    obtain ⟨F, rfl⟩ : ∃ F', F = F' + 1 := ⟨F - 1, by omega⟩
    exact ⟨i, hi, if_pos (by rw [h, tle, tnI (by omega), tnI (by omega)]; omega)⟩
  | succ d ih =>
    intro i F hd hi hF
    obtain ⟨F, rfl⟩ : ∃ F', F = F' + 1 := ⟨F - 1, by omega⟩
    by_cases c : x ≤ vi 18 i
    · refine ⟨i, hi, (if_neg (by rw [h, tle, tnI (by omega), tnI (by omega)]; omega)).trans ((if_inb (by rw [tnI (by omega)]; omega)).trans (if_pos (by rw [nI_clamp (by omega)]; exact c)))⟩
    · obtain ⟨m, m1, m2⟩ := ih (i + 1) F (by omega) (by omega) (by omega)
      refine ⟨m, m1, (if_neg (by rw [h, tle, tnI (by omega), tnI (by omega)]; omega)).trans ((if_inb (by rw [tnI (by omega)]; omega)).trans ((if_neg (by rw [nI_clamp (by omega)]; exact c)).trans ?_))⟩
      rw [nI_1]; exact m2
theorem begin_any {n m : Nat} {vi : VI} (h : vi 16 5 = nI n) (n12 : n ≤ 12) (hm : m ≤ n) (p a : Int32) : ∃ b, fX2_mayBegin (nI m) p a vi = some b := by
  unfold fX2_mayBegin
  by_cases c : vi 16 5 ≤ nI m
  · exact ⟨_, if_pos c⟩
  · have c' := c
    rw [h, tle, tnI (by omega), tnI (by omega)] at c'
    rw [if_neg c, if_inb (by rw [tnI (by omega)]; omega)]
    by_cases d : p = vi 18 (nI m).toNatClampNeg
    · rw [if_pos d, nI_1, if_inb (by rw [tnI (by omega)]; omega)]
      by_cases e : vi 18 (nI (m + 1)).toNatClampNeg < p + a
      · exact ⟨_, if_pos e⟩
      · exact ⟨_, if_neg e⟩
    · exact ⟨_, if_neg d⟩
theorem behind_any {ns j n c : Nat} {wh th : Nat → Nat} {A : Nat → Nat → Nat} {vi : VI} {vl : VL} (h : DA ns j n wh th A vi vl) (h5 : vi 16 5 = nI n) (x : Int32) (hc : c < 60) : ∃ r vi', fX2_placeBehind (98 + 5 * j) x (nI c) vi = some (r, vi') ∧ DA ns j n wh th A vi' vl ∧ vi' 16 5 = nI n := by
  have n12 := h.2.2.1
  obtain ⟨m, hm, e0⟩ := lay_any h5 n12 x n 0 FU (by omega) (by omega) (by rw [FU_eq]; omega)
  have e1 : fX2_layersAt x vi = some (nI m) := e0
  obtain ⟨vi1, a1, a2, a3⟩ := da_gives h (k := m) (c := c) (by omega) hc
  have h5' : vi1 16 5 = nI n := (a3 16 5 (by omega) (by omega) (by omega) (by omega)).trans h5
  obtain ⟨r3, t3, q3⟩ := tells_lo a2 hm
  obtain ⟨r4, t4, q4⟩ := tells_hi a2 hm
  obtain ⟨b, eb⟩ := begin_any h5' n12 hm x (nI (A m c))
  suffices w : ∃ r, fX2_placeBehind (98 + 5 * j) x (nI c) vi = some (r, vi1) by
    obtain ⟨r, w⟩ := w
    exact ⟨r, vi1, w, a2, h5'⟩
  unfold fX2_placeBehind
  rw [e1, Option.bind_some, c_rem hc, c_div hc, a1, Option.bind_some]
  show ∃ r, (if nI (A m c) = 0 then some (x, vi1) else (fX3_tells (98 + 5 * j + 1) (nI m - 1) 0 vi1).bind fun r3 => if r3 = nI (c / 10) then if inb (nI m) 13 = true then if (vi1 18 (nI m).toNatClampNeg) < (x + nI (A m c)) then some ((-2), vi1) else some ((x + nI (A m c)), vi1) else none else (fX3_tells (98 + 5 * j + 1) (nI m) 0 vi1).bind fun r4 => if r4 = nI (c / 10) then (fX2_mayBegin (nI m) x (nI (A m c)) vi1).bind fun r5 => if r5 = true then some ((x + nI (A m c)), vi1) else some ((-2), vi1) else some ((-2), vi1)) = some (r, vi1)
  rw [t3, Option.bind_some, t4, Option.bind_some, eb, Option.bind_some, if_inb (by rw [tnI (by omega)]; omega)]
  by_cases c1 : nI (A m c) = 0
  · exact ⟨_, if_pos c1⟩
  · rw [if_neg c1]
    by_cases c2 : r3 = nI (c / 10)
    · rw [if_pos c2]
      by_cases c3 : vi1 18 (nI m).toNatClampNeg < x + nI (A m c)
      · exact ⟨_, if_pos c3⟩
      · exact ⟨_, if_neg c3⟩
    · rw [if_neg c2]
      by_cases c4 : r4 = nI (c / 10)
      · rw [if_pos c4]
        by_cases c5 : b = true
        · exact ⟨_, if_pos c5⟩
        · exact ⟨_, if_neg c5⟩
      · exact ⟨_, if_neg c4⟩
