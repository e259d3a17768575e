/-! Days: what each amount lays, and the sorting of lookings -/
def DA (ns j n : Nat) (wh th : Nat → Nat) (A : Nat → Nat → Nat) (vi : VI) (vl : VL) : Prop := j < ns ∧ INV ns vi vl ∧ n ≤ 12 ∧ vi (99 + 5 * j) 2 = nI n ∧ (∀ k, k < n → vi (100 + 5 * j) k = nI (wh k) ∧ vi (101 + 5 * j) k = nI (th k) ∧ wh k < 6 ∧ 1 ≤ th k ∧ th k ≤ 99) ∧ ∀ k, k ≤ 12 → ∀ c, c < 60 → A k c ≤ 9 ∧ ∀ vm, LawSame j vi vm → ∃ vm', fX10_laysBy (nI j) (nI (c / 10)) (nI (c % 10)) (nI k) vm = some (nI (A k c), vm') ∧ ∀ o i, o ≠ 80 → o ≠ 81 → vm' o i = vm o i
theorem same_scr {j : Nat} {vi vi' : VI} (hf : ∀ a i, ¬ Scr a i → vi' a i = vi a i) : LawSame j vi vi' :=
  ⟨(hf _ _ (by unfold Scr; omega)).symm, (hf _ _ (by unfold Scr; omega)).symm, (hf _ _ (by unfold Scr; omega)).symm, (hf _ _ (by unfold Scr; omega)).symm, fun o i p q => (hf o i (by unfold Scr; omega)).symm⟩
theorem same_trans {j : Nat} {a b c : VI} (h : LawSame j a b) (g : LawSame j b c) : LawSame j a c :=
  ⟨h.1.trans g.1, h.2.1.trans g.2.1, h.2.2.1.trans g.2.2.1, h.2.2.2.1.trans g.2.2.2.1, fun o i p q => (h.2.2.2.2 o i p q).trans (g.2.2.2.2 o i p q)⟩
theorem da_keep {ns j n : Nat} {wh th : Nat → Nat} {A : Nat → Nat → Nat} {vi vi' : VI} {vl vl' : VL} (h : DA ns j n wh th A vi vl) (hc : I_cache ns vi') (hf : ∀ a i, ¬ Scr a i → vi' a i = vi a i) (hl : ∀ a i, a ≠ 17 → a ≠ 84 → vl' a i = vl a i) : DA ns j n wh th A vi' vl' := by
  obtain ⟨h1, h2, h3, h4, h5, h6⟩ := h
  refine ⟨h1, inv_scr h2 hc hf hl, h3, (hf _ _ (by unfold Scr; omega)).trans h4, fun k hk => ?_, fun k hk c hc => ⟨(h6 k hk c hc).1, fun vm hv => (h6 k hk c hc).2 vm (same_trans (same_scr hf) hv)⟩⟩
  obtain ⟨a, b, d⟩ := h5 k hk
  exact ⟨(hf _ _ (by unfold Scr; omega)).trans a, (hf _ _ (by unfold Scr; omega)).trans b, d⟩
theorem da_plain {ns j n : Nat} {wh th : Nat → Nat} {A : Nat → Nat → Nat} {vi vi' : VI} {vl vl' : VL} (h : DA ns j n wh th A vi vl) (hf : ∀ a i, (a < 9 ∨ 22 < a) → ¬ (a = 63 ∧ 29 ≤ i ∧ i ≤ 38) → ¬ (80 ≤ a ∧ a ≤ 86) → vi' a i = vi a i) (hl : ∀ a i, a ≠ 17 → a ≠ 84 → vl' a i = vl a i) : DA ns j n wh th A vi' vl' :=
  da_keep h (cache_scr h.2.1.2.1 fun a i q => hf a i (by unfold Scr at q; omega) (by unfold Scr at q; omega) (by unfold Scr at q; omega)) (fun a i q => hf a i (by unfold Scr at q; omega) (by unfold Scr at q; omega) (by unfold Scr at q; omega)) hl
theorem da_gives {ns j n : Nat} {wh th : Nat → Nat} {A : Nat → Nat → Nat} {vi : VI} {vl : VL} (h : DA ns j n wh th A vi vl) {k c : Nat} (hk : k ≤ 12) (hc : c < 60) : ∃ vi', fX7_gives (98 + 5 * j) (nI k) (nI (c / 10)) (nI (c % 10)) vi = some (nI (A k c), vi') ∧ DA ns j n wh th A vi' vl ∧ ∀ a i, ¬ (a = 5 ∧ i = 5) → a ≠ 7 → a ≠ 8 → a ≠ 102 + 5 * j → vi' a i = vi a i := by
  have hI := h.2.1
  obtain ⟨r, vi1, a1, a2, a3, a4, a5⟩ := p_gives hI.2.2.2.2.2.2.2.2.2.2.2 hI.1 hI.2.1 h.1 hk (one := c / 10) (much := c % 10) (by omega) (by omega)
  obtain ⟨vm1, e1, _⟩ := a5 vi same_rfl
  obtain ⟨vm2, e2, _⟩ := (h.2.2.2.2.2 k hk c hc).2 vi same_rfl
  rw [e1] at e2
  have er : r = nI (A k c) := congrArg Prod.fst (Option.some.inj e2)
  subst er
  exact ⟨vi1, a1, da_keep h a4 (fun a i q => a3 a i (by unfold Scr at q; omega) (by unfold Scr at q; omega) (by unfold Scr at q; omega) (by unfold Scr at q; omega)) fun _ _ _ _ => rfl, a3⟩
theorem da_start {ns j : Nat} {vi : VI} {vl : VL} (h : INV ns vi vl) (hj : j < ns) : ∃ n wh th A, DA ns j n wh th A vi vl := by
  obtain ⟨n, d1, d2, d3, d4⟩ := h.2.2.2.1 j hj
  have hA : ∀ k c, ∃ r : Nat, k ≤ 12 → c < 60 → r ≤ 9 ∧ ∀ vm, LawSame j vi vm → ∃ vm', fX10_laysBy (nI j) (nI (c / 10)) (nI (c % 10)) (nI k) vm = some (nI r, vm') ∧ ∀ o i, o ≠ 80 → o ≠ 81 → vm' o i = vm o i := by
    intro k c
    by_cases q : k ≤ 12 ∧ c < 60
    · obtain ⟨r, vi1, a1, a2, a3, a4, a5⟩ := p_gives h.2.2.2.2.2.2.2.2.2.2.2 h.1 h.2.1 hj q.1 (one := c / 10) (much := c % 10) (by omega) (by omega)
      obtain ⟨r, hr, rfl⟩ := rng_nI (N := 9) a2 (by omega)
      exact ⟨r, fun _ _ => ⟨hr, a5⟩⟩
    · exact ⟨0, fun a b => absurd ⟨a, b⟩ q⟩
  refine ⟨n, fun k => (vi (100 + 5 * j) k).toInt.toNat, fun k => (vi (101 + 5 * j) k).toInt.toNat, fun k c => (hA k c).choose, hj, h, d1, d2, fun k hk => ?_, fun k hk c hc => (hA k c).choose_spec hk hc⟩
  obtain ⟨e1, e2, e3, e4⟩ := d4 k hk
  obtain ⟨w, w1, w2⟩ := rng_nI (N := 5) e3 (by omega)
  obtain ⟨t, t1, t2⟩ := rng_nI (N := 99) ⟨by have := e4.1; omega, e4.2⟩ (by omega)
  have p := e4.1
  rw [t2, tnI (by omega)] at p
  show _ = nI (vi (100 + 5 * j) k).toInt.toNat ∧ _ = nI (vi (101 + 5 * j) k).toInt.toNat ∧ (vi (100 + 5 * j) k).toInt.toNat < 6 ∧ 1 ≤ (vi (101 + 5 * j) k).toInt.toNat ∧ (vi (101 + 5 * j) k).toInt.toNat ≤ 99
  rw [e1, e2, w2, t2, tnI (by omega), tnI (by omega)]
  refine ⟨rfl, rfl, ?_, ?_, ?_⟩
  · show ((w : Int).toNat) < 6; omega
  · show 1 ≤ ((t : Int).toNat); omega
  · show ((t : Int).toNat) ≤ 99; omega
theorem c_div {c : Nat} (h : c < 60) : (nI c / 10 : Int32) = nI (c / 10) := nI_div (b := 10) (by omega) (by omega)
theorem c_rem {c : Nat} (h : c < 60) : (nI c - nI c / 10 * 10 : Int32) = nI (c % 10) := nI_rem (b := 10) (by omega) (by omega)
def cnt (wh : Nat → Nat) (A : Nat → Nat → Nat) (ex : Nat → Bool) (n k C : Nat) (vi : VI) : Prop := vi 19 k = nI (sm (c0 A ex k) C) ∧ ∀ a, a < 10 → vi 20 (k * 10 + a) = nI (sm (cT wh A ex k a) C) ∧ vi 21 (k * 10 + a) = nI (sm (cB wh A ex n k a) C)
theorem cnt_step {wh : Nat → Nat} {A : Nat → Nat → Nat} {ex : Nat → Bool} {n k C : Nat} {vi vi' : VI} (h : cnt wh A ex n k C vi) (e0 : vi' 19 k = vi 19 k + nI (c0 A ex k C)) (e1 : ∀ a, a < 10 → vi' 20 (k * 10 + a) = vi 20 (k * 10 + a) + nI (cT wh A ex k a C) ∧ vi' 21 (k * 10 + a) = vi 21 (k * 10 + a) + nI (cB wh A ex n k a C)) : cnt wh A ex n k (C + 1) vi' := by
  refine ⟨?_, fun a ha => ⟨?_, ?_⟩⟩
  · rw [e0, h.1, nI_add]; rfl
  · rw [(e1 a ha).1, (h.2 a ha).1, nI_add]; rfl
  · rw [(e1 a ha).2, (h.2 a ha).2, nI_add]; rfl
theorem add_0 (x : Int32) : x = x + nI 0 := (Int32.add_zero x).symm
def srt (j k : Nat) (a i : Nat) : Prop := (a = 5 ∧ i = 5) ∨ a = 7 ∨ a = 8 ∨ a = 102 + 5 * j ∨ (a = 19 ∧ i = k) ∨ ((a = 20 ∨ a = 21) ∧ k * 10 ≤ i ∧ i < k * 10 + 10)
theorem sort_loop {ns j n k : Nat} {wh th : Nat → Nat} {A : Nat → Nat → Nat} {ex : Nat → Bool} {vl : VL} {x3 r1 r2 : Int32} (hk : k ≤ n) (hx : ∀ c, c < 60 → (ex c = true ↔ nI (c / 10) = x3)) (h1 : ∀ c, c < 60 → (nI (c / 10) = r1 ↔ (0 < k ∧ wh (k - 1) = c / 10))) (h2 : ∀ c, c < 60 → (nI (c / 10) = r2 ↔ (k < n ∧ wh k = c / 10))) : ∀ (d C : Nat) (vi : VI), 60 - C = d → C ≤ 60 → DA ns j n wh th A vi vl → cnt wh A ex n k C vi → ∃ vi', (∀ F, d < F → fX2_sortLookings_27 (98 + 5 * j) F (nI k) x3 r1 r2 (nI C) vi = some vi') ∧ DA ns j n wh th A vi' vl ∧ cnt wh A ex n k 60 vi' ∧ ∀ a i, ¬ srt j k a i → vi' a i = vi a i := by
  intro d
  induction d with
  | zero =>
    intro C vi hd hC hD hc
    obtain rfl : C = 60 := by omega
    refine ⟨vi, fun F hF => ?_, hD, hc, fun _ _ _ => rfl⟩
    obtain ⟨F, rfl⟩ : ∃ G, F = G + 1 := ⟨F - 1, by omega⟩
    exact if_pos (show (60 : Int32) ≤ nI 60 by decide)
  | succ d ih =>
    intro C vi hd hC hD hc
    have hC' : C < 60 := by omega
    have n12 := hD.2.2.1
    have no : ¬ (60 : Int32) ≤ nI C := by rw [Int32.le_iff_toInt_le, tnI (by omega), l60]; omega
    have go : ∀ (vi2 : VI), (∀ F, fX2_sortLookings_27 (98 + 5 * j) (F + 1) (nI k) x3 r1 r2 (nI C) vi = fX2_sortLookings_27 (98 + 5 * j) F (nI k) x3 r1 r2 (nI (C + 1)) vi2) → DA ns j n wh th A vi2 vl → cnt wh A ex n k (C + 1) vi2 → (∀ a i, ¬ srt j k a i → vi2 a i = vi a i) → ∃ vi', (∀ F, d + 1 < F → fX2_sortLookings_27 (98 + 5 * j) F (nI k) x3 r1 r2 (nI C) vi = some vi') ∧ DA ns j n wh th A vi' vl ∧ cnt wh A ex n k 60 vi' ∧ ∀ a i, ¬ srt j k a i → vi' a i = vi a i := by
      intro vi2 e1 e2 e3 e4
      obtain ⟨vi', g1, g2, g3, g4⟩ := ih (C + 1) vi2 (by omega) (by omega) e2 e3
      refine ⟨vi', fun F hF => ?_, g2, g3, fun a i q => (g4 a i q).trans (e4 a i q)⟩
      obtain ⟨F, rfl⟩ : ∃ G, F = G + 1 := ⟨F - 1, by omega⟩
      rw [e1 F]; exact g1 F (by omega)
    by_cases e : ex C = true
    · refine go vi (fun F => ?_) hD (cnt_step hc ?_ fun a ha => ⟨?_, ?_⟩) fun _ _ _ => rfl
      · refine (if_neg no).trans ((if_pos ?_).trans ?_)
        · rw [c_div hC']; exact (hx C hC').1 e
        · show fX2_sortLookings_27 (98 + 5 * j) F (nI k) x3 r1 r2 (nI C + 1) vi = _
          rw [nI_succ]
      · rw [show c0 A ex k C = 0 from if_pos e]; exact add_0 _
      · rw [show cT wh A ex k a C = 0 from if_pos e]; exact add_0 _
      · rw [show cB wh A ex n k a C = 0 from if_pos e]; exact add_0 _
    · obtain ⟨vi1, a1, a2, a3⟩ := da_gives hD (k := k) (c := C) (by omega) hC'
      have hA9 := (hD.2.2.2.2.2 k (by omega) C hC').1
      have nx3 : ¬ (nI C / 10 : Int32) = x3 := by rw [c_div hC']; exact fun q => e ((hx C hC').2 q)
      have base : ∀ F, fX2_sortLookings_27 (98 + 5 * j) (F + 1) (nI k) x3 r1 r2 (nI C) vi = (if nI (A k C) = 0 then if inb (nI k) 13 = true then if inb (nI k) 13 = true then fX2_sortLookings_27 (98 + 5 * j) F (nI k) x3 r1 r2 (nI (C + 1)) (j_up vi1 19 k ((vi1 19 k) + 1)) else none else none else if nI (C / 10) = r1 then if inb (nI (k * 10 + A k C)) 130 = true then if inb (nI (k * 10 + A k C)) 130 = true then fX2_sortLookings_27 (98 + 5 * j) F (nI k) x3 r1 r2 (nI (C + 1)) (j_up vi1 20 (k * 10 + A k C) ((vi1 20 (k * 10 + A k C)) + 1)) else none else none else if nI (C / 10) = r2 then if inb (nI (k * 10 + A k C)) 130 = true then if inb (nI (k * 10 + A k C)) 130 = true then fX2_sortLookings_27 (98 + 5 * j) F (nI k) x3 r1 r2 (nI (C + 1)) (j_up vi1 21 (k * 10 + A k C) ((vi1 21 (k * 10 + A k C)) + 1)) else none else none else fX2_sortLookings_27 (98 + 5 * j) F (nI k) x3 r1 r2 (nI (C + 1)) vi1) := by
        intro F
        refine (if_neg no).trans ((if_neg nx3).trans ?_)
        rw [c_rem hC', c_div hC', a1]
        show (if nI (A k C) = 0 then if inb (nI k) 13 = true then if inb (nI k) 13 = true then fX2_sortLookings_27 (98 + 5 * j) F (nI k) x3 r1 r2 (nI C + 1) (j_up vi1 19 (nI k).toNatClampNeg ((vi1 19 (nI k).toNatClampNeg) + 1)) else none else none else if nI (C / 10) = r1 then if inb (nI k * nI 10 + nI (A k C)) 130 = true then if inb (nI k * nI 10 + nI (A k C)) 130 = true then fX2_sortLookings_27 (98 + 5 * j) F (nI k) x3 r1 r2 (nI C + 1) (j_up vi1 20 (nI k * nI 10 + nI (A k C)).toNatClampNeg ((vi1 20 (nI k * nI 10 + nI (A k C)).toNatClampNeg) + 1)) else none else none else if nI (C / 10) = r2 then if inb (nI k * nI 10 + nI (A k C)) 130 = true then if inb (nI k * nI 10 + nI (A k C)) 130 = true then fX2_sortLookings_27 (98 + 5 * j) F (nI k) x3 r1 r2 (nI C + 1) (j_up vi1 21 (nI k * nI 10 + nI (A k C)).toNatClampNeg ((vi1 21 (nI k * nI 10 + nI (A k C)).toNatClampNeg) + 1)) else none else none else fX2_sortLookings_27 (98 + 5 * j) F (nI k) x3 r1 r2 (nI C + 1) vi1) = _
        rw [nI_mul, nI_add, nI_succ, nI_clamp (by omega), nI_clamp (by omega)]
      have i13 : 0 ≤ (nI k).toInt ∧ (nI k).toInt < (13 : Nat) := by rw [tnI (by omega)]; omega
      have i130 : 0 ≤ (nI (k * 10 + A k C)).toInt ∧ (nI (k * 10 + A k C)).toInt < (130 : Nat) := by rw [tnI (by omega)]; omega
      have fr1 : ∀ a i, ¬ srt j k a i → vi1 a i = vi a i := fun a i q => a3 a i (by unfold srt at q; omega) (by unfold srt at q; omega) (by unfold srt at q; omega) (by unfold srt at q; omega)
      have k19 : ∀ i, vi1 19 i = vi 19 i := fun i => a3 19 i (by omega) (by omega) (by omega) (by omega)
      have k20 : ∀ i, vi1 20 i = vi 20 i := fun i => a3 20 i (by omega) (by omega) (by omega) (by omega)
      have k21 : ∀ i, vi1 21 i = vi 21 i := fun i => a3 21 i (by omega) (by omega) (by omega) (by omega)
      by_cases z : A k C = 0
      · refine go (j_up vi1 19 k (vi1 19 k + 1)) (fun F => ?_) (da_plain a2 (fun a i q _ _ => up_o (by omega)) fun _ _ _ _ => rfl) (cnt_step hc ?_ fun a ha => ⟨?_, ?_⟩) fun a i q => (up_at _ _ _ _ _ _).trans ((if_neg (by unfold srt at q; omega)).trans (fr1 a i q))
        · rw [base F]
          exact (if_pos (by rw [z]; rfl)).trans ((if_inb i13).trans (if_inb i13))
        · rw [up_s, k19, show c0 A ex k C = 1 from (if_neg e).trans (if_pos z)]; rfl
        · rw [up_o (by omega), k20, show cT wh A ex k a C = 0 from (if_neg e).trans (if_neg (by omega))]; exact add_0 _
        · rw [up_o (by omega), k21, show cB wh A ex n k a C = 0 from (if_neg e).trans (if_neg (by omega))]; exact add_0 _
      · have z' : ¬ nI (A k C) = 0 := by rw [← t00, nI_inj (by omega) (by omega)]; exact z
        have zc : c0 A ex k C = 0 := (if_neg e).trans (if_neg z)
        by_cases b : 0 < k ∧ wh (k - 1) = C / 10
        · refine go (j_up vi1 20 (k * 10 + A k C) (vi1 20 (k * 10 + A k C) + 1)) (fun F => ?_) (da_plain a2 (fun a i q _ _ => up_o (by omega)) fun _ _ _ _ => rfl) (cnt_step hc ?_ fun a ha => ⟨?_, ?_⟩) fun a i q => (up_at _ _ _ _ _ _).trans ((if_neg (by unfold srt at q; omega)).trans (fr1 a i q))
          · rw [base F]
            exact (if_neg z').trans ((if_pos ((h1 C hC').2 b)).trans ((if_inb i130).trans (if_inb i130)))
          · rw [up_o (by omega), k19, zc]; exact add_0 _
          · by_cases w : A k C = a
            · subst w
              rw [up_s, k20, show cT wh A ex k (A k C) C = 1 from (if_neg e).trans (if_pos ⟨z, rfl, b⟩)]; rfl
            · rw [up_i (by omega), k20, show cT wh A ex k a C = 0 from (if_neg e).trans (if_neg fun q => w q.2.1)]; exact add_0 _
          · rw [up_o (by omega), k21, show cB wh A ex n k a C = 0 from (if_neg e).trans (if_neg fun q => q.2.2.1 b)]; exact add_0 _
        · have nb : ¬ nI (C / 10) = r1 := fun q => b ((h1 C hC').1 q)
          by_cases b2 : k < n ∧ wh k = C / 10
          · refine go (j_up vi1 21 (k * 10 + A k C) (vi1 21 (k * 10 + A k C) + 1)) (fun F => ?_) (da_plain a2 (fun a i q _ _ => up_o (by omega)) fun _ _ _ _ => rfl) (cnt_step hc ?_ fun a ha => ⟨?_, ?_⟩) fun a i q => (up_at _ _ _ _ _ _).trans ((if_neg (by unfold srt at q; omega)).trans (fr1 a i q))
            · rw [base F]
              exact (if_neg z').trans ((if_neg nb).trans ((if_pos ((h2 C hC').2 b2)).trans ((if_inb i130).trans (if_inb i130))))
            · rw [up_o (by omega), k19, zc]; exact add_0 _
            · rw [up_o (by omega), k20, show cT wh A ex k a C = 0 from (if_neg e).trans (if_neg fun q => b q.2.2)]; exact add_0 _
            · by_cases w : A k C = a
              · subst w
                rw [up_s, k21, show cB wh A ex n k (A k C) C = 1 from (if_neg e).trans (if_pos ⟨z, rfl, b, b2⟩)]; rfl
              · rw [up_i (by omega), k21, show cB wh A ex n k a C = 0 from (if_neg e).trans (if_neg fun q => w q.2.1)]; exact add_0 _
          · refine go vi1 (fun F => ?_) a2 (cnt_step hc ?_ fun a ha => ⟨?_, ?_⟩) fr1
            · rw [base F]
              exact (if_neg z').trans ((if_neg nb).trans (if_neg fun q => b2 ((h2 C hC').1 q)))
            · rw [k19, zc]; exact add_0 _
            · rw [k20, show cT wh A ex k a C = 0 from (if_neg e).trans (if_neg fun q => b q.2.2)]; exact add_0 _
            · rw [k21, show cB wh A ex n k a C = 0 from (if_neg e).trans (if_neg fun q => b2 q.2.2.2)]; exact add_0 _
