/-! mend, undo, redo -/
def WM (o i : Nat) : Prop := S9 o i ∨ Ch o i ∨ o = 64 ∨ o = 65 ∨ o = 66 ∨ (o = 63 ∧ i = 5)
theorem cache_out {ns : Nat} {vi vi' : VI} (h5 : ns ≤ 5) (h : I_cache ns vi) (hf : ∀ o i, ¬ (42 ≤ o ∧ o ≤ 46) → vi' o i = vi o i) : I_cache ns vi' :=
  cache_frame h (fun j _ => ⟨(hf _ _ (by omega)).symm, (hf _ _ (by omega)).symm, (hf _ _ (by omega)).symm, (hf _ _ (by omega)).symm, fun o i p q => (hf o i (by omega)).symm⟩) (fun j i _ _ => Or.inl (hf _ _ (by omega)))
theorem num_out {ns : Nat} {vi vi' : VI} (h : I_num ns vi) (hf : ∀ o i, ¬ (42 ≤ o ∧ o ≤ 46) → vi' o i = vi o i) : I_num ns vi' :=
  num_frame h (fun o i q => hf o i (by unfold F_num at q; omega))
theorem mayHave_eq (w v : Int32) : fX10_mayHave w v = some (decide (0 ≤ v.toInt ∧ v.toInt ≤ (if w = 3 then 3 else 9))) := by
  unfold fX10_mayHave
  simp only [in_eq, Option.bind_some, l0, l3, l9]
  split <;> rfl
theorem okV_iff {w v : Int32} : okV w v ↔ 0 ≤ v.toInt ∧ v.toInt ≤ (if w = 3 then 3 else 9) := by
  unfold okV rng
  split
  · constructor
    · rintro ⟨⟨a, b⟩, c⟩; exact ⟨a, c ‹_›⟩
    · rintro ⟨a, b⟩; exact ⟨⟨a, by omega⟩, fun _ => b⟩
  · constructor
    · rintro ⟨⟨a, b⟩, c⟩; exact ⟨a, b⟩
    · rintro ⟨a, b⟩; exact ⟨⟨a, b⟩, fun q => absurd q ‹_›⟩
theorem p_mend {ns : Nat} {vi : VI} (hn : I_num ns vi) (hc : I_cache ns vi) (hg : I_chg ns vi) (n w v : Int32) : ∃ r vi1, fX9_mend ns n w v vi = some (r, vi1) ∧ ∃ vi2, fX10_mend n w v vi1 = some (r, vi2) ∧ I_num ns vi2 ∧ I_cache ns vi2 ∧ I_chg ns vi2 ∧ ∀ o i, ¬ WM o i → vi2 o i = vi o i := by
  have h5 := hn.1
  have hb := hn.2.1
  have hb' := hn.2.2.1
  unfold fX9_mend
  have em : fX9_mend_21 ns n w v v (if w = 3 then 3 else 9) vi = (if w = 3 then fX9_mend_21 ns n w v v 3 vi else fX9_mend_21 ns n w v v 9 vi) := by split <;> rfl
  rw [← em]
  have tm : (if w = 3 then (3 : Int32) else 9).toInt = if w = 3 then 3 else 9 := by split <;> rfl
  rcases mendable h5 hb hb' n w with ⟨ok, e1, e2⟩ | ⟨ok, e1, e2⟩
  · rw [e1, Option.bind_some, if_pos rfl]
    unfold fX9_mend_21
    rw [within_eq, Option.bind_some, tm]
    by_cases kv : okV w v
    · rw [if_pos (by rw [decide_eq_true_eq]; exact okV_iff.1 kv)]
      obtain ⟨x, x1, x2, x3⟩ := numbers hn (vm := vi) (fun _ _ _ => rfl) ok
      rw [x1, Option.bind_some]
      by_cases c : x = v
      · rw [if_pos c]
        refine ⟨_, _, rfl, vi, ?_, hn, hc, hg, fun _ _ _ => rfl⟩
        unfold fX10_mend fX10_changes
        rw [e2, Option.bind_some, if_pos rfl, mayHave_eq, Option.bind_some, if_pos (by rw [decide_eq_true_eq]; exact okV_iff.1 kv), x2, Option.bind_some, if_pos c]; rfl
      · rw [if_neg c]
        obtain ⟨d, u, hdu, g1, g2, g3, g4, g5⟩ := hg
        obtain ⟨va, e, k1, k2, k3, k4, k5, k6, k7, k8, k9, k10⟩ := keepNew_eq g1 (by omega) n w x v
        have he : e < 40 := by rw [k2]; split <;> omega
        have hna : I_num ns va := num_out hn (fun o i q => k10 o i (by omega))
        have hca : I_cache ns va := cache_out h5 hc (fun o i q => k10 o i (by omega))
        obtain ⟨v1, s1, s2, s3⟩ := set_both hna hca ok kv
        rw [k1, Option.bind_some, s1]
        refine ⟨x, v1, rfl, ?_⟩
        -- the model
        have ov : ∀ o i, ¬ (42 ≤ o ∧ o ≤ 46) → ¬ S9 o i → v1 o i = vi o i := fun o i q1 q2 => (s2 o i q2).trans (k10 o i (by omega))
        have m1 : v1 63 1 = nI ns := (ov 63 1 (by omega) (by unfold S9; omega)).trans hb'
        have m9 : v1 63 9 = nI d := (ov 63 9 (by omega) (by unfold S9; omega)).trans g3
        unfold fX10_mend
        rcases mendable h5 hb m1 n w with ⟨-, -, f2⟩ | ⟨q, -, -⟩
        · rw [f2, Option.bind_some, if_pos rfl, mayHave_eq, Option.bind_some, if_pos (by rw [decide_eq_true_eq]; exact okV_iff.1 kv)]
          unfold fX10_changes
          obtain ⟨x', y1, y2, -⟩ := numbers hn (vm := v1) (fun o i q => ov o i (by omega) (by unfold S9; omega)) ok
          have : x' = x := Option.some.inj (y1.symm.trans x1)
          subst this
          rw [y2]
          simp only [Option.bind_some]
          rw [if_neg c]
          -- the row made ready
          obtain ⟨vb, b1, b2, b3, b4⟩ : ∃ vb, (if (j_up v1 63 10 0) 63 9 = 40 then fX10_changes_34 FU w n v x' 1 (j_up v1 63 10 0) else fX10_changes_121 w n v x' (j_up v1 63 10 0)) = fX10_changes_121 w n v x' vb ∧ vb 63 9 = nI e ∧ (∀ o i, 70 ≤ o → o ≤ 73 → i < e → vb o i = v1 o (if d < 40 then i else i + 1)) ∧ ∀ o i, (o < 70 ∨ 73 < o) → ¬ (o = 63 ∧ i = 9) → vb o i = (j_up v1 63 10 0) o i := by
            have e9 : (j_up v1 63 10 0) 63 9 = nI d := by rw [up_i (by decide), m9]
            rw [e9]
            by_cases cd : d < 40
            · rw [if_neg (by rw [teq, tnI (by omega), l40]; omega)]
              rw [if_pos cd] at k2
              subst k2
              exact ⟨_, rfl, e9, fun o i q1 q2 q3 => by rw [if_pos cd, up_o (by omega)], fun o i q1 q2 => rfl⟩
            · have ed : d = 40 := by omega
              subst ed
              rw [if_pos (show nI 40 = 40 from rfl)]
              rw [if_neg cd] at k2
              subst k2
              obtain ⟨vb, c1, c2, c3, c4⟩ := ch34 (w := w) (n := n) (v := v) (x := x') 39 1 FU (j_up v1 63 10 0) (by omega) (by rw [FU_eq]; omega) (by omega) (by omega) e9
              refine ⟨vb, c1, c2, fun o i q1 q2 q3 => ?_, c4⟩
              rw [c3 o i q1 q2 q3, if_pos (by omega), if_neg cd, up_o (by omega)]
          rw [b1, ch121 b2 he]
          have agree : ∀ o i, ¬ Ch o i → (j_up (j_up (j_up (j_up (j_up vb 70 e w) 71 e n) 72 e x') 73 e v) 63 9 (nI (e + 1))) o i = v1 o i := by
            intro o i q
            unfold Ch at q
            rw [up_at, if_neg (by omega), up_o (by omega), up_o (by omega), up_o (by omega), up_o (by omega), b4 o i (by omega) (by omega), up_at, if_neg (by omega)]
          obtain ⟨v2, t1, t2, t3, t4⟩ := s3 _ agree
          rw [t1]
          refine ⟨v2, rfl, t2, t3, ?_, fun o i q => ?_⟩
          · have c9 : ∀ o i, 42 ≤ o → o ≤ 46 → v2 o i = va o i := by
              intro o i q1 q2
              rw [t4 o i (by omega) (by omega) (by omega) (by omega), up_at, if_neg (by omega), up_o (by omega), up_o (by omega), up_o (by omega), up_o (by omega), b4 o i (by omega) (by omega), up_at, if_neg (by omega), s2 o i (by unfold S9; omega)]
            have m7 : ∀ o i, 70 ≤ o → o ≤ 73 → i < e → v2 o i = vi o (if d < 40 then i else i + 1) := by
              intro o i q1 q2 q3
              rw [t4 o i (by omega) (by omega) (by omega) (by omega), up_at, if_neg (by omega), up_i (by omega), up_i (by omega), up_i (by omega), up_i (by omega), b3 o i q1 q2 q3]
              exact ov _ _ (by omega) (by unfold S9; omega)
            have e63 : v2 63 10 = 0 := by
              rw [t4 63 10 (by omega) (by omega) (by omega) (by omega), up_at, if_neg (by omega), up_o (by omega), up_o (by omega), up_o (by omega), up_o (by omega), b4 63 10 (by omega) (by omega), up_s]
            refine ⟨e + 1, 0, by omega, ?_, ?_, ?_, e63, fun i hi => ?_⟩
            · rw [c9 42 4 (by omega) (by omega), k3]
            · rw [c9 42 5 (by omega) (by omega), k4]
            · rw [t4 63 9 (by omega) (by omega) (by omega) (by omega), up_s]
            · rw [c9 43 i (by omega) (by omega), c9 44 i (by omega) (by omega), c9 45 i (by omega) (by omega), c9 46 i (by omega) (by omega)]
              by_cases ci : i = e
              · subst ci
                have r0 : v2 70 i = w := by rw [t4 70 i (by omega) (by omega) (by omega) (by omega), up_o (by omega), up_o (by omega), up_o (by omega), up_o (by omega), up_s]
                have r1 : v2 71 i = n := by rw [t4 71 i (by omega) (by omega) (by omega) (by omega), up_o (by omega), up_o (by omega), up_o (by omega), up_s]
                have r2 : v2 72 i = x' := by rw [t4 72 i (by omega) (by omega) (by omega) (by omega), up_o (by omega), up_o (by omega), up_s]
                have r3 : v2 73 i = v := by rw [t4 73 i (by omega) (by omega) (by omega) (by omega), up_o (by omega), up_s]
                rw [r0, r1, r2, r3, k5, k6, k7, k8]
                exact ⟨rfl, rfl, rfl, rfl, ok, x3, kv⟩
              · have hi' : i < e := by omega
                rw [k9 43 i (by omega) (by omega) hi', k9 44 i (by omega) (by omega) hi', k9 45 i (by omega) (by omega) hi', k9 46 i (by omega) (by omega) hi', m7 70 i (by omega) (by omega) hi', m7 71 i (by omega) (by omega) hi', m7 72 i (by omega) (by omega) hi', m7 73 i (by omega) (by omega) hi']
                refine g5 _ ?_
                split
                · rename_i cd; rw [if_pos cd] at k2; omega
                · rename_i cd; rw [if_neg cd] at k2; omega
          · unfold WM at q
            have q2 : ¬ S9 o i := fun a => q (Or.inl a)
            have q3 : ¬ Ch o i := fun a => q (Or.inr (Or.inl a))
            rw [t4 o i (by omega) (by omega) (by omega) (by omega), agree o i q3]
            exact ov o i (by unfold Ch at q3; omega) q2
        · exact absurd ok q
    · rw [if_neg (by rw [decide_eq_true_eq]; exact fun q => kv (okV_iff.2 q))]
      refine ⟨_, _, rfl, vi, ?_, hn, hc, hg, fun _ _ _ => rfl⟩
      unfold fX10_mend
      rw [e2, Option.bind_some, if_pos rfl, mayHave_eq, Option.bind_some, if_neg (by rw [decide_eq_true_eq]; exact fun q => kv (okV_iff.2 q))]
  · rw [e1, Option.bind_some, if_neg (by decide)]
    refine ⟨_, _, rfl, vi, ?_, hn, hc, hg, fun _ _ _ => rfl⟩
    unfold fX10_mend
    rw [e2, Option.bind_some, if_neg (by decide)]
theorem p_undo {ns : Nat} {vi : VI} (hn : I_num ns vi) (hc : I_cache ns vi) (hg : I_chg ns vi) : ∃ r vi1, fX9_undo ns vi = some (r, vi1) ∧ ∃ vi2, fX10_undo vi1 = some (r, vi2) ∧ I_num ns vi2 ∧ I_cache ns vi2 ∧ I_chg ns vi2 ∧ ∀ o i, ¬ WM o i → vi2 o i = vi o i := by
  obtain ⟨d, u, hdu, g1, g2, g3, g4, g5⟩ := hg
  unfold fX9_undo
  rw [g1]
  have ed : (nI d - 1).toInt = (d : Int) - 1 := by rw [tsub (by rw [tnI (by omega), l1]; omega) (by rw [tnI (by omega), l1]; omega), tnI (by omega), l1]
  by_cases c : d = 0
  · subst c
    rw [if_pos (by rw [tlt, ed, l0]; omega)]
    refine ⟨_, _, rfl, vi, ?_, hn, hc, ⟨0, u, hdu, g1, g2, g3, g4, g5⟩, fun _ _ _ => rfl⟩
    unfold fX10_undo
    rw [g3, if_pos (by rfl)]
  · obtain ⟨e, rfl⟩ : ∃ e, d = e + 1 := ⟨d - 1, by omega⟩
    have ee : (nI (e + 1) - 1 : Int32) = nI e := by rw [teq, ed, tnI (by omega)]; omega
    obtain ⟨a1, a2, a3, a4, a5, a6, a7⟩ := g5 e (by omega)
    have be : 0 ≤ (nI e).toInt ∧ (nI e).toInt < (40 : Nat) := by rw [tnI (by omega)]; omega
    rw [ee, if_neg (by rw [tlt, l0]; omega), if_pos (by rw [tlt, l40]; omega), if_inb be, if_inb be, if_inb be, nI_clamp (by omega), a1, a2, a3]
    obtain ⟨v1, s1, s2, s3⟩ := set_both hn hc a5 a6
    rw [s1, Option.bind_some]
    refine ⟨_, _, rfl, ?_⟩
    have ov : ∀ o i, ¬ S9 o i → ¬ (o = 42 ∧ i = 4) → (j_up v1 42 4 (nI e)) o i = vi o i := fun o i q1 q2 => by rw [up_at, if_neg q2, s2 o i q1]
    unfold fX10_undo
    have m9 : (j_up v1 42 4 (nI e)) 63 9 = nI (e + 1) := by rw [ov 63 9 (by unfold S9; omega) (by omega), g3]
    have m10 : (j_up v1 42 4 (nI e)) 63 10 = nI u := by rw [ov 63 10 (by unfold S9; omega) (by omega), g4]
    rw [m9, if_neg (by rw [teq, tnI (by omega), l0]; omega), ee]
    have m10' : (j_up (j_up v1 42 4 (nI e)) 63 9 (nI e)) 63 10 = nI u := by rw [up_i (by decide), m10]
    rw [m10', nI_1]
    have vb : ∃ vb, vb = j_up (j_up (j_up v1 42 4 (nI e)) 63 9 (nI e)) 63 10 (nI (u + 1)) := ⟨_, rfl⟩
    obtain ⟨vb, hvb⟩ := vb
    rw [← hvb]
    have b9 : vb 63 9 = nI e := by rw [hvb, up_i (by decide), up_s]
    have bo : ∀ o i, ¬ (o = 42 ∧ i = 4) → ¬ (o = 63 ∧ (i = 9 ∨ i = 10)) → vb o i = v1 o i := fun o i q1 q2 => by rw [hvb, up_at, if_neg (by omega), up_at, if_neg (by omega), up_at, if_neg q1]
    have b70 : vb 70 e = vi 70 e := by rw [bo 70 e (by omega) (by omega), s2 70 e (by unfold S9; omega)]
    have b71 : vb 71 e = vi 71 e := by rw [bo 71 e (by omega) (by omega), s2 71 e (by unfold S9; omega)]
    have b72 : vb 72 e = vi 72 e := by rw [bo 72 e (by omega) (by omega), s2 72 e (by unfold S9; omega)]
    rw [b9, if_inb be, if_inb be, if_inb be, nI_clamp (by omega), b70, b71, b72]
    obtain ⟨v2, t1, t2, t3, t4⟩ := s3 vb (fun o i q => by unfold Ch at q; exact bo o i (by omega) (by omega))
    rw [t1, Option.bind_some]
    have e9 : v2 63 9 = nI e := by rw [t4 63 9 (by omega) (by omega) (by omega) (by omega), b9]
    have same : ∀ o i, (43 ≤ o ∧ o ≤ 46) ∨ (70 ≤ o ∧ o ≤ 73) ∨ (o = 42 ∧ i = 5) → v2 o i = vi o i := fun o i q => by rw [t4 o i (by omega) (by omega) (by omega) (by omega), bo o i (by omega) (by omega), s2 o i (by unfold S9; omega)]
    refine ⟨v2, by rw [e9], t2, t3, ⟨e, u + 1, by omega, ?_, ?_, e9, ?_, fun i hi => ?_⟩, fun o i q => ?_⟩
    · rw [t4 42 4 (by omega) (by omega) (by omega) (by omega), hvb, up_o (by omega), up_o (by omega), up_s]
    · rw [same 42 5 (by omega), g2]; congr 1; omega
    · rw [t4 63 10 (by omega) (by omega) (by omega) (by omega), hvb, up_s]
    · rw [same 43 i (by omega), same 44 i (by omega), same 45 i (by omega), same 46 i (by omega), same 70 i (by omega), same 71 i (by omega), same 72 i (by omega), same 73 i (by omega)]
      exact g5 i (by omega)
    · unfold WM at q
      have q2 : ¬ S9 o i := fun a => q (Or.inl a)
      have q3 : ¬ Ch o i := fun a => q (Or.inr (Or.inl a))
      unfold Ch at q3
      rw [t4 o i (by omega) (by omega) (by omega) (by omega), bo o i (by omega) (by omega), s2 o i q2]
theorem p_redo {ns : Nat} {vi : VI} (hn : I_num ns vi) (hc : I_cache ns vi) (hg : I_chg ns vi) : ∃ r vi1, fX9_redo ns vi = some (r, vi1) ∧ ∃ vi2, fX10_redo vi1 = some (r, vi2) ∧ I_num ns vi2 ∧ I_cache ns vi2 ∧ I_chg ns vi2 ∧ ∀ o i, ¬ WM o i → vi2 o i = vi o i := by
  obtain ⟨d, u, hdu, g1, g2, g3, g4, g5⟩ := hg
  unfold fX9_redo
  rw [g1, g2]
  rw [if_neg (by rw [tlt, tnI (by omega), l0]; omega)]
  by_cases c : u = 0
  · subst c
    rw [if_pos (by rw [tle, tnI (by omega), tnI (by omega)]; omega)]
    refine ⟨_, _, rfl, vi, ?_, hn, hc, ⟨d, 0, hdu, g1, g2, g3, g4, g5⟩, fun _ _ _ => rfl⟩
    unfold fX10_redo
    rw [g4, if_pos (by rfl)]
  · obtain ⟨a1, a2, a3, a4, a5, a6, a7⟩ := g5 d (by omega)
    have be : 0 ≤ (nI d).toInt ∧ (nI d).toInt < (40 : Nat) := by rw [tnI (by omega)]; omega
    rw [if_neg (by rw [tle, tnI (by omega), tnI (by omega)]; omega), if_pos (by rw [tlt, l40]; omega), if_inb be, if_inb be, if_inb be, nI_clamp (by omega), a1, a2, a4]
    obtain ⟨v1, s1, s2, s3⟩ := set_both hn hc a5 a7
    rw [s1, Option.bind_some, nI_1]
    have r5 : (j_up v1 42 4 (nI (d + 1))) 42 5 = nI (d + u) := by rw [up_i (by decide), s2 42 5 (by unfold S9; omega), g2]
    rw [r5, up_s]
    refine ⟨_, _, rfl, ?_⟩
    unfold fX10_redo
    have bo : ∀ o i, ¬ (o = 42 ∧ i = 4) → (j_up v1 42 4 (nI (d + 1))) o i = v1 o i := fun o i q => by rw [up_at, if_neg q]
    have b9 : (j_up v1 42 4 (nI (d + 1))) 63 9 = nI d := by rw [bo 63 9 (by omega), s2 63 9 (by unfold S9; omega), g3]
    have b10 : (j_up v1 42 4 (nI (d + 1))) 63 10 = nI u := by rw [bo 63 10 (by omega), s2 63 10 (by unfold S9; omega), g4]
    have b70 : (j_up v1 42 4 (nI (d + 1))) 70 d = vi 70 d := by rw [bo 70 d (by omega), s2 70 d (by unfold S9; omega)]
    have b71 : (j_up v1 42 4 (nI (d + 1))) 71 d = vi 71 d := by rw [bo 71 d (by omega), s2 71 d (by unfold S9; omega)]
    have b73 : (j_up v1 42 4 (nI (d + 1))) 73 d = vi 73 d := by rw [bo 73 d (by omega), s2 73 d (by unfold S9; omega)]
    rw [b9, b10, if_neg (by rw [teq, tnI (by omega), l0]; omega), if_inb be, if_inb be, if_inb be, nI_clamp (by omega), b70, b71, b73]
    obtain ⟨v2, t1, t2, t3, t4⟩ := s3 _ (fun o i q => by unfold Ch at q; exact bo o i (by omega))
    rw [t1, Option.bind_some]
    have e9 : v2 63 9 = nI d := by rw [t4 63 9 (by omega) (by omega) (by omega) (by omega), b9]
    have e10 : v2 63 10 = nI u := by rw [t4 63 10 (by omega) (by omega) (by omega) (by omega), b10]
    rw [e9, nI_1]
    have e10' : (j_up v2 63 9 (nI (d + 1))) 63 10 = nI u := by rw [up_i (by decide), e10]
    have eu : (nI u - 1 : Int32) = nI (u - 1) := by
      rw [teq, tsub (by rw [tnI (by omega), l1]; omega) (by rw [tnI (by omega), l1]; omega), tnI (by omega), l1, tnI (by omega)]; omega
    have er : (nI (d + u) - nI (d + 1) : Int32) = nI (u - 1) := by
      rw [teq, tsub (by rw [tnI (by omega), tnI (by omega)]; omega) (by rw [tnI (by omega), tnI (by omega)]; omega), tnI (by omega), tnI (by omega), tnI (by omega)]; omega
    rw [e10', eu, er, up_s]
    have same : ∀ o i, (43 ≤ o ∧ o ≤ 46) ∨ (70 ≤ o ∧ o ≤ 73) ∨ (o = 42 ∧ i = 5) → v2 o i = vi o i := fun o i q => by rw [t4 o i (by omega) (by omega) (by omega) (by omega), bo o i (by omega), s2 o i (by unfold S9; omega)]
    have ov : ∀ o i, ¬ (o = 63 ∧ (i = 9 ∨ i = 10)) → (j_up (j_up v2 63 9 (nI (d + 1))) 63 10 (nI (u - 1))) o i = v2 o i := fun o i q => by rw [up_at, if_neg (by omega), up_at, if_neg (by omega)]
    refine ⟨_, rfl, num_frame t2 (fun o i q => ov o i (by unfold F_num at q; omega)), cache_frame t3 (fun j _ => ⟨(ov _ _ (by omega)).symm, (ov _ _ (by omega)).symm, (ov _ _ (by omega)).symm, (ov _ _ (by omega)).symm, fun o i p q => (ov o i (by omega)).symm⟩) (fun j i _ _ => Or.inl (ov _ _ (by omega))), ⟨d + 1, u - 1, by omega, ?_, ?_, ?_, up_s, fun i hi => ?_⟩, fun o i q => ?_⟩
    · rw [ov 42 4 (by omega), t4 42 4 (by omega) (by omega) (by omega) (by omega), up_s]
    · rw [ov 42 5 (by omega), same 42 5 (by omega), g2]; congr 1; omega
    · rw [up_i (by decide), up_s]
    · rw [ov 43 i (by omega), ov 44 i (by omega), ov 45 i (by omega), ov 46 i (by omega), ov 70 i (by omega), ov 71 i (by omega), ov 72 i (by omega), ov 73 i (by omega), same 43 i (by omega), same 44 i (by omega), same 45 i (by omega), same 46 i (by omega), same 70 i (by omega), same 71 i (by omega), same 72 i (by omega), same 73 i (by omega)]
      exact g5 i (by omega)
    · unfold WM at q
      have q2 : ¬ S9 o i := fun a => q (Or.inl a)
      have q3 : ¬ Ch o i := fun a => q (Or.inr (Or.inl a))
      unfold Ch at q3
      rw [ov o i (by omega), t4 o i (by omega) (by omega) (by omega) (by omega), bo o i (by omega), s2 o i q2]
