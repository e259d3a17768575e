/-! Days: one working out -/
theorem end_iff {th : Nat → Nat} {n m t : Nat} (h1 : ∀ k, k < n → 1 ≤ th k) (hv : Vd th n m t) : Pl th m t = sm th n ↔ (m = n ∧ (m = 0 ∨ t = th (m - 1))) := by
  have hp := pl_hi hv
  have hm := hv.1
  constructor
  · intro e
    have em : m = n := by
      by_cases c : m < n
      · have a := sm_mono (f := th) (show m + 1 ≤ n by omega)
        have b : sm th (m + 1) = sm th m + th m := rfl
        have := h1 m c
        omega
      · omega
    subst em
    refine ⟨rfl, ?_⟩
    by_cases z : m = 0
    · exact Or.inl z
    · obtain ⟨q, rfl⟩ : ∃ q, m = q + 1 := ⟨m - 1, by omega⟩
      refine Or.inr ?_
      unfold Pl at e
      rw [if_neg z] at e
      have b : sm th (q + 1) = sm th q + th q := rfl
      have b2 : q + 1 - 1 = q := rfl
      rw [b2] at e
      rw [b2]; omega
  · rintro ⟨rfl, e⟩
    unfold Pl
    by_cases z : m = 0
    · subst z; rfl
    · obtain ⟨q, rfl⟩ : ∃ q, m = q + 1 := ⟨m - 1, by omega⟩
      rcases e with e | e
      · exact absurd e z
      · rw [if_neg z, e]; rfl
theorem tw_0 {wh th : Nat → Nat} {A : Nat → Nat → Nat} {ex : Nat → Bool} {n : Nat} {vl : VL} (h1 : ∀ k, k < n → 1 ≤ th k) (hg : sm th n ≤ 81) (hz : ∀ i, i < 820 → vl 17 i = 0) : TW wh th A ex n (0 * 82 + (sm th n + 1)) (j_up vl 17 (sm th n) 1) := by
  refine ⟨fun l m t hl hv q => ?_, fun i q1 q2 => (up_i (by omega)).trans (hz i q2)⟩
  have hp := pl_g hv
  have e : l = 0 := by omega
  subst e
  rw [show 0 * 82 + Pl th m t = Pl th m t by omega]
  have w : wy wh th A ex n n 0 m t = if m = n ∧ (m = 0 ∨ t = th (m - 1)) then 1 else 0 := rfl
  rw [w]
  by_cases c : m = n ∧ (m = 0 ∨ t = th (m - 1))
  · rw [if_pos c, (end_iff h1 hv).2 c, up_s]; rfl
  · rw [if_neg c, up_i fun q => c ((end_iff h1 hv).1 q), hz _ (by omega)]; rfl
def WO (ns j n : Nat) (wh th : Nat → Nat) (A : Nat → Nat → Nat) (ex : Nat → Bool) (D : Nat) (vi : VI) (vl : VL) : Prop := DA ns j n wh th A vi vl ∧ vi 16 5 = nI n ∧ ((sm th n ≤ 81 ∧ SB wh th A ex n (n + 1) vi ∧ ∀ l m t, l ≤ D → Vd th n m t → vl 17 (l * 82 + Pl th m t) = nL (wy wh th A ex n n l m t)) ∨ (81 < sm th n ∧ ∀ i, i < 820 → vl 17 i = 0))
theorem workout {ns j n D : Nat} {wh th : Nat → Nat} {A : Nat → Nat → Nat} {ex : Nat → Bool} {vi : VI} {vl : VL} {x3 : Int32} (hD : D ≤ 9) (hx : ∀ c, c < 60 → (ex c = true ↔ nI (c / 10) = x3)) (h : DA ns j n wh th A vi vl) : ∃ vi' vl', fX2_workOut (98 + 5 * j) (nI D) x3 vi vl = some (vi', vl') ∧ WO ns j n wh th A ex D vi' vl' ∧ (∀ a i, ¬ Scr a i → vi' a i = vi a i) ∧ ∀ a i, a ≠ 17 → vl' a i = vl a i := by
  have n12 := h.2.2.1
  have hth : ∀ k, k < n → 1 ≤ th k := fun k hk => (h.2.2.2.2.1 k hk).2.2.2.1
  have g12 := sm_th (fun k hk => (h.2.2.2.2.1 k hk).2.2.2.2) (Nat.le_refl n) n12
  have hA : ∀ m c, m ≤ n → c < 60 → A m c ≤ 9 := fun m c hm hc => (h.2.2.2.2.2 m (by omega) c hc).1
  obtain ⟨vl1, f1, f2⟩ := fillJ_eq (x0 := 17) (N := 820) (x := 0) (by omega) vl
  have z1 : ∀ i, i < 820 → vl1 17 i = 0 := fun i hi => (f2 17 i).trans (if_pos ⟨rfl, hi⟩)
  have l1 : ∀ a i, a ≠ 17 → vl1 a i = vl a i := fun a i q => (f2 a i).trans (if_neg fun w => q w.1)
  have dA : DA ns j n wh th A (j_up vi 16 5 (nI n)) vl := da_plain h (fun a i q _ _ => up_o (by omega)) fun _ _ _ _ => rfl
  have dB : DA ns j n wh th A (j_up (j_up vi 16 5 (nI n)) 16 6 (nI (sm th n))) vl1 := da_plain dA (fun a i q _ _ => up_o (by omega)) fun a i q _ => l1 a i q
  have frB : ∀ a i, ¬ Scr a i → j_up (j_up vi 16 5 (nI n)) 16 6 (nI (sm th n)) a i = vi a i := fun a i q => by
    have qa : a ≠ 16 := by unfold Scr at q; omega
    rw [up_o qa, up_o qa]
  unfold fX2_workOut
  rw [show 98 + 5 * j + 1 = 99 + 5 * j by omega, h.2.2.2.1, grains_eq dA, Option.bind_some, f1, Option.bind_some, up_s]
  have s5 : j_up (j_up vi 16 5 (nI n)) 16 6 (nI (sm th n)) 16 5 = nI n := (up_i (by omega)).trans up_s
  have s6 : j_up (j_up vi 16 5 (nI n)) 16 6 (nI (sm th n)) 16 6 = nI (sm th n) := up_s
  generalize j_up (j_up vi 16 5 (nI n)) 16 6 (nI (sm th n)) = vB at dB frB s5 s6
  by_cases hg : sm th n ≤ 81
  · obtain ⟨v3, e3, p3⟩ := fillI_eq (x0 := 19) (N := 13) (x := 0) (by omega) vB
    obtain ⟨v4, e4, p4⟩ := fillI_eq (x0 := 20) (N := 130) (x := 0) (by omega) v3
    obtain ⟨v5, e5, p5⟩ := fillI_eq (x0 := 21) (N := 130) (x := 0) (by omega) v4
    have fr5 : ∀ a i, a ≠ 19 → a ≠ 20 → a ≠ 21 → v5 a i = vB a i := fun a i q1 q2 q3 => by
      rw [p5, if_neg fun w => q3 w.1, p4, if_neg fun w => q2 w.1, p3, if_neg fun w => q1 w.1]
    have d5 : DA ns j n wh th A v5 vl1 := da_plain dB (fun a i q _ _ => fr5 a i (by omega) (by omega) (by omega)) fun _ _ _ _ => rfl
    have s5 : SB wh th A ex n 0 v5 := by
      refine ⟨(fr5 _ _ (by omega) (by omega) (by omega)).trans s5, (fr5 _ _ (by omega) (by omega) (by omega)).trans s6, fun i q => absurd q (by omega), fun i _ hi => ⟨?_, fun a ha => ⟨?_, ?_⟩⟩⟩
      · rw [p5, if_neg (by omega), p4, if_neg (by omega), p3, if_pos (by omega)]
      · rw [p5, if_neg (by omega), p4, if_pos (by omega)]
      · rw [p5, if_pos (by omega)]
    obtain ⟨v6, g1, g2, g3, g4⟩ := loop67 (x2 := nI D) hx hg (n + 1) 0 v5 (by omega) (by omega) d5 s5
    obtain ⟨vl2, k1, k2, k3⟩ := loop141 (x1 := 98 + 5 * j) (D := D) g3 n12 hg hD hA D 0 (j_up vl1 17 (sm th n) 1) (by omega) (by omega) (tw_0 hth hg z1)
    have ll : ∀ a i, a ≠ 17 → vl2 a i = vl a i := fun a i q => (k3 a i q).trans ((up_o q).trans (l1 a i q))
    refine ⟨v6, vl2, ?_, ⟨da_keep g2 g2.2.1.2.1 (fun _ _ _ => rfl) fun a i q _ => (k3 a i q).trans (up_o q), g3.1, Or.inl ⟨hg, g3, fun l m t hl hv => k2.1 l m t (by omega) hv ?_⟩⟩, fun a i q => (g4 a i q).trans ((fr5 a i (by unfold Scr at q; omega) (by unfold Scr at q; omega) (by unfold Scr at q; omega)).trans (frB a i q)), ll⟩
    · refine (if_pos (by rw [tle, tnI (by omega), l81]; omega)).trans ?_
      rw [e3, Option.bind_some, e4, Option.bind_some, e5, Option.bind_some]
      exact (g1 FU (by rw [FU_eq]; omega)).trans (k1 FU (by rw [FU_eq]; omega))
    · have := pl_g hv; omega
  · refine ⟨vB, vl1, (if_neg (by rw [tle, tnI (by omega), l81]; omega)), ⟨dB, s5, Or.inr ⟨by omega, z1⟩⟩, frB, l1⟩
