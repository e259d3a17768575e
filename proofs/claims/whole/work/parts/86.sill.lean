/-! sill, sills -/
theorem sill_init {o x : Nat} {h g : Int32} {sv : SV} {vi : VI} {vl : VL} (ho : Ob sv o 7) : ∃ sv' vi' vl', fX7_init o x h g sv vi vl = some (sv', vi', vl') ∧ sv'.1 = sv.1 + 4 ∧ (∀ a, a < sv.1 → sv'.2.1 a = sv.2.1 a ∧ sv'.2.2.1 a = sv.2.2.1 a) ∧ isDust sv' sv.1 ∧ Ar sv' (sv.1 + 3) 12 780 ∧ (sv'.2.2.2 o 0 = x + 1 ∧ sv'.2.2.2 o 1 = sv.1 + 1 ∧ sv'.2.2.2 o 2 = (sv.1 + 3) + 1) ∧ (∀ a i, a < sv.1 → a ≠ o → sv'.2.2.2 a i = sv.2.2.2 a i) ∧ (∀ a i, vi' a i = if a = o ∧ i = 4 then g else if a = o ∧ i = 3 then h else if sv.1 ≤ a ∧ a ≤ sv.1 + 3 then 0 else vi a i) ∧ ∀ a i, a < sv.1 → vl' a i = vl a i := by
  obtain ⟨h1, h2⟩ := ho
  obtain ⟨sd, vd, ld, d0, d1, d2, d3, d4, d5, d6, d7, d8⟩ := dust_init (o := sv.1) (sv := j_svn sv 3 3) (vi := j_z0 vi sv.1 0) (vl := j_z0 vl sv.1 0) ⟨by show sv.1 < sv.1 + 1; omega, by show (if sv.1 = sv.1 then 3 else sv.2.1 sv.1) = 3; rw [if_pos rfl]⟩
  have n1 : sd.1 = sv.1 + 3 := d1
  have k_o : sd.2.1 o = 7 := by
    rw [(d2 o (by show o < sv.1 + 1; omega)).1]
    show (if o = sv.1 then 3 else sv.2.1 o) = 7
    rw [if_neg (by omega)]; exact h2
  unfold fX7_init
  simp only [optL]
  rw [if_pos (by decide), if_pos (by decide), d0, Option.bind_some]
  simp only []
  rw [if_ob ⟨by show o < sd.1; omega, k_o⟩, if_pos (by decide), if_ob ⟨by show o < sd.1 + 1; omega, by show (if o = sd.1 then 12 else sd.2.1 o) = 7; rw [if_neg (by omega)]; exact k_o⟩, if_ob ⟨by show o < sd.1 + 1; omega, by show (if o = sd.1 then 12 else sd.2.1 o) = 7; rw [if_neg (by omega)]; exact k_o⟩, if_ob ⟨by show o < sd.1 + 1; omega, by show (if o = sd.1 then 12 else sd.2.1 o) = 7; rw [if_neg (by omega)]; exact k_o⟩, if_ob ⟨by show o < sd.1 + 1; omega, by show (if o = sd.1 then 12 else sd.2.1 o) = 7; rw [if_neg (by omega)]; exact k_o⟩, if_pos (by decide)]
  have kk : ∀ a, a < sd.1 → (if a = sd.1 then 12 else sd.2.1 a) = sd.2.1 a ∧ (if a = sd.1 then 780 else sd.2.2.1 a) = sd.2.2.1 a := fun a ha => ⟨if_neg (by omega), if_neg (by omega)⟩
  refine ⟨_, _, _, rfl, ?_, fun a ha => ⟨?_, ?_⟩, ⟨⟨?_, ?_⟩, ?_, ?_, ⟨?_, ?_, ?_⟩, ⟨?_, ?_, ?_⟩⟩, ⟨?_, ?_, ?_⟩, ⟨?_, ?_, ?_⟩, fun a i ha hne => ?_, fun a i => ?_, fun a i ha => ?_⟩
  · show sd.1 + 1 = sv.1 + 4
    omega
  · show (if a = sd.1 then 12 else sd.2.1 a) = sv.2.1 a
    rw [(kk a (by omega)).1, (d2 a (by show a < sv.1 + 1; omega)).1]
    show (if a = sv.1 then 3 else sv.2.1 a) = _
    rw [if_neg (by omega)]
  · show (if a = sd.1 then 780 else sd.2.2.1 a) = sv.2.2.1 a
    rw [(kk a (by omega)).2, (d2 a (by show a < sv.1 + 1; omega)).2]
    show (if a = sv.1 then 3 else sv.2.2.1 a) = _
    rw [if_neg (by omega)]
  · show sv.1 < sd.1 + 1
    omega
  · show (if sv.1 = sd.1 then 12 else sd.2.1 sv.1) = 3
    rw [(kk sv.1 (by omega)).1, (d2 sv.1 (by show sv.1 < sv.1 + 1; omega)).1]
    show (if sv.1 = sv.1 then 3 else sv.2.1 sv.1) = 3
    rw [if_pos rfl]
  · show (if sv.1 = o ∧ 0 = 0 then _ else if sv.1 = o ∧ 0 = 2 then _ else if sv.1 = sd.1 then 0 else if sv.1 = o ∧ 0 = 1 then _ else sd.2.2.2 sv.1 0) = _
    rw [if_neg (by omega), if_neg (by omega), if_neg (by omega), if_neg (by omega)]
    exact d5.1
  · show (if sv.1 = o ∧ 1 = 0 then _ else if sv.1 = o ∧ 1 = 2 then _ else if sv.1 = sd.1 then 0 else if sv.1 = o ∧ 1 = 1 then _ else sd.2.2.2 sv.1 1) = _
    rw [if_neg (by omega), if_neg (by omega), if_neg (by omega), if_neg (by omega)]
    exact d5.2
  · show sv.1 + 1 < sd.1 + 1
    omega
  · show (if sv.1 + 1 = sd.1 then 12 else sd.2.1 (sv.1 + 1)) = 11
    rw [(kk (sv.1 + 1) (by omega)).1]; exact d3.1
  · show (if sv.1 + 1 = sd.1 then 780 else sd.2.2.1 (sv.1 + 1)) = 12
    rw [(kk (sv.1 + 1) (by omega)).2]; exact d3.2
  · show sv.1 + 2 < sd.1 + 1
    omega
  · show (if sv.1 + 2 = sd.1 then 12 else sd.2.1 (sv.1 + 2)) = 11
    rw [(kk (sv.1 + 2) (by omega)).1]; exact d4.1
  · show (if sv.1 + 2 = sd.1 then 780 else sd.2.2.1 (sv.1 + 2)) = 12
    rw [(kk (sv.1 + 2) (by omega)).2]; exact d4.2
  · show sv.1 + 3 < sd.1 + 1
    omega
  · show (if sv.1 + 3 = sd.1 then 12 else sd.2.1 (sv.1 + 3)) = 12
    rw [if_pos (by omega)]
  · show (if sv.1 + 3 = sd.1 then 780 else sd.2.2.1 (sv.1 + 3)) = 780
    rw [if_pos (by omega)]
  · show (if o = o ∧ 0 = 0 then x + 1 else _) = x + 1
    rw [if_pos ⟨rfl, rfl⟩]
  · show (if o = o ∧ 1 = 0 then _ else if o = o ∧ 1 = 2 then _ else if o = sd.1 then 0 else if o = o ∧ 1 = 1 then sv.1 + 1 else _) = sv.1 + 1
    rw [if_neg (by omega), if_neg (by omega), if_neg (by omega), if_pos ⟨rfl, rfl⟩]
  · show (if o = o ∧ 2 = 0 then _ else if o = o ∧ 2 = 2 then sd.1 + 1 else _) = _
    rw [if_neg (by omega), if_pos ⟨rfl, rfl⟩]; omega
  · show (if a = o ∧ i = 0 then _ else if a = o ∧ i = 2 then _ else if a = sd.1 then 0 else if a = o ∧ i = 1 then _ else sd.2.2.2 a i) = _
    rw [if_neg (by omega), if_neg (by omega), if_neg (by omega), if_neg (by omega), d6 a i (by show a < sv.1 + 1; omega) (by omega)]
    show (if a = sv.1 then 0 else sv.2.2.2 a i) = _
    rw [if_neg (by omega)]
  · show (if a = o ∧ i = 4 then g else if a = o ∧ i = 3 then h else if a = sd.1 then 0 else vd a i) = _
    by_cases c1 : a = o ∧ i = 4
    · rw [if_pos c1, if_pos c1]
    · rw [if_neg c1, if_neg c1]
      by_cases c2 : a = o ∧ i = 3
      · rw [if_pos c2, if_pos c2]
      · rw [if_neg c2, if_neg c2, d7]
        show (if a = sd.1 then 0 else if a = sv.1 + 1 ∨ a = sv.1 + 1 + 1 then 0 else if a = sv.1 then 0 else vi a i) = _
        by_cases c3 : sv.1 ≤ a ∧ a ≤ sv.1 + 3
        · rw [if_pos c3]
          by_cases e1 : a = sd.1
          · rw [if_pos e1]
          · rw [if_neg e1]
            by_cases e2 : a = sv.1 + 1 ∨ a = sv.1 + 1 + 1
            · rw [if_pos e2]
            · rw [if_neg e2, if_pos (by omega)]
        · rw [if_neg c3, if_neg (by omega), if_neg (by omega), if_neg (by omega)]
  · show (if a = sd.1 then 0 else ld a i) = _
    rw [if_neg (by omega), d8 a i (by show a < sv.1 + 1; omega)]
    show (if a = sv.1 then 0 else vl a i) = _
    rw [if_neg (by omega)]
theorem sill_make {ns : Nat} {sv : SV} {vi : VI} {vl : VL} {x1 x2 : Int32} (hW : WF sv ns) (h5 : ns < 5) (n1 : vi 0 1 = nI ns) (c1 : 0 ≤ x1.toInt ∧ x1.toInt ≤ 9) (c2 : 0 ≤ x2.toInt ∧ x2.toInt ≤ 9) : ∃ sv1 vi1 vl1, fX9_sill x1 x2 sv vi vl = some (nI ns, sv1, vi1, vl1) ∧ WF sv1 (ns + 1) ∧ vi1 0 1 = nI (ns + 1) ∧ vi1 (98 + 5 * ns) 3 = x1 ∧ vi1 (98 + 5 * ns) 4 = x2 ∧ (∀ i, vi1 (99 + 5 * ns) i = 0) ∧ (∀ i, vi1 (102 + 5 * ns) i = 0) ∧ (∀ a i, a < 98 + 5 * ns → ¬ (a = 0 ∧ i = 1) → vi1 a i = vi a i) ∧ ∀ a i, a < 98 + 5 * ns → vl1 a i = vl a i := by
  have hz : sv.1 = 98 + 5 * ns := wf_1 hW
  have o9 : Ob sv 0 9 := wf_2 hW
  have r0 : sv.2.2.2 0 0 = 1 + 1 := wf_100 hW
  have r4 : sv.2.2.2 0 4 = 5 + 1 := wf_104 hW
  have w1 : fX9_isWithin x1 9 = some true := by rw [within_eq]; simp [l9, c1]
  have w2 : fX9_isWithin x2 9 = some true := by rw [within_eq]; simp [l9, c2]
  have cn : (nI ns).toNatClampNeg = ns := nI_clamp (by omega)
  have o9' : Ob (j_svn sv 7 5) 0 9 := ⟨by show 0 < sv.1 + 1; omega, by show (if 0 = sv.1 then 7 else sv.2.1 0) = 9; rw [if_neg (by omega)]; exact o9.2⟩
  have r4' : j_z0 sv.2.2.2 sv.1 0 0 4 = 5 + 1 := by
    show (if 0 = sv.1 then 0 else sv.2.2.2 0 4) = 5 + 1
    rw [if_neg (by omega)]; exact r4
  obtain ⟨sa, va, la, a0, a1, a2, a3, a4, a5, a6, a7, a8⟩ := sill_init (o := sv.1) (x := 5) (h := x1) (g := x2) (sv := j_svn sv 7 5) (vi := j_z0 vi sv.1 0) (vl := j_z0 vl sv.1 0) ⟨by show sv.1 < sv.1 + 1; omega, by show (if sv.1 = sv.1 then 7 else sv.2.1 sv.1) = 7; rw [if_pos rfl]⟩
  have sz : sa.1 = sv.1 + 5 := a1
  have old : ∀ a, a < sv.1 → sa.2.1 a = sv.2.1 a ∧ sa.2.2.1 a = sv.2.2.1 a := by
    intro a ha
    obtain ⟨g1, g2⟩ := a2 a (by show a < sv.1 + 1; omega)
    rw [g1, g2]
    exact ⟨by show (if a = sv.1 then 7 else sv.2.1 a) = _; rw [if_neg (by omega)], by show (if a = sv.1 then 5 else sv.2.2.1 a) = _; rw [if_neg (by omega)]⟩
  have ar1 : Ar sa 1 23 5 := ⟨by omega, ((old 1 (by omega)).1).trans (wf_3 hW).2.1, ((old 1 (by omega)).2).trans (wf_3 hW).2.2⟩
  have obz : Ob sa sv.1 7 := by
    refine ⟨by omega, ?_⟩
    rw [(a2 sv.1 (by show sv.1 < sv.1 + 1; omega)).1]
    show (if sv.1 = sv.1 then 7 else sv.2.1 sv.1) = 7
    rw [if_pos rfl]
  have ob0 : Ob sa 0 9 := ⟨by omega, ((old 0 (by omega)).1).trans o9.2⟩
  have ob0' : Ob (j_svr sa 1 (nI ns).toNatClampNeg (sv.1 + 1)) 0 9 := ob0
  have v01 : va 0 1 = nI ns := by
    rw [a7, if_neg (by omega), if_neg (by omega), if_neg (by show ¬ (sv.1 + 1 ≤ 0 ∧ _); omega)]
    show (if 0 = sv.1 then 0 else vi 0 1) = nI ns
    rw [if_neg (by omega)]; exact n1
  refine ⟨j_svr sa 1 ns (sv.1 + 1), j_up va 0 1 (nI (ns + 1)), la, ?_, ?_, ?_, ?_, ?_, fun i => ?_, fun i => ?_, fun a i ha hne => ?_, fun a i ha => ?_⟩
  · unfold fX9_sill
    simp only [optL]
    rw [if_pos (by decide), w1, Option.bind_some, if_pos rfl, if_pos (by decide), w2, Option.bind_some, if_pos rfl, if_ob o9, n1, if_pos (by rw [tlt, l5, tnI (by omega)]; omega), if_ob o9, r0, if_pos (by decide), if_ob o9, if_pos (by decide), if_ob o9']
    simp only [r4']
    rw [if_pos (by decide), if_pos (by decide), show 5 + 1 - 1 = 5 from rfl, a0, Option.bind_some]
    simp only []
    rw [show 1 + 1 - 1 = 1 from rfl, if_ar ar1, if_inb (by rw [tnI (by omega)]; omega), if_ob obz, if_ob ob0', if_ob ob0', if_ob ob0', if_pos (by decide), cn, v01, nI_1, up_s, nsub1 (by omega)]
  · refine wf_more hW h5 ⟨by omega, by show sv.1 ≤ sa.1; omega, old, fun a i ha hne => ?_⟩ ?_ ?_ ⟨⟨?_, ?_⟩, ?_, ?_, ?_, ?_, ?_⟩
    · show (if a = 1 ∧ i = ns then _ else sa.2.2.2 a i) = _
      rw [if_neg hne, a6 a i (by show a < sv.1 + 1; omega) (by omega)]
      show (if a = sv.1 then 0 else sv.2.2.2 a i) = _
      rw [if_neg (by omega)]
    · show sa.1 = _
      omega
    · show (if 1 = 1 ∧ ns = ns then sv.1 + 1 else _) = _
      rw [if_pos ⟨rfl, rfl⟩, hz]
    · show 98 + 5 * ns < sa.1
      omega
    · show sa.2.1 (98 + 5 * ns) = 7
      rw [← hz]; exact obz.2
    · show (if 98 + 5 * ns = 1 ∧ 0 = ns then _ else sa.2.2.2 (98 + 5 * ns) 0) = 5 + 1
      rw [if_neg (by omega), ← hz]; exact a5.1
    · show (if 98 + 5 * ns = 1 ∧ 1 = ns then _ else sa.2.2.2 (98 + 5 * ns) 1) = _
      rw [if_neg (by omega), ← hz]; exact a5.2.1
    · show (if 98 + 5 * ns = 1 ∧ 2 = ns then _ else sa.2.2.2 (98 + 5 * ns) 2) = _
      rw [if_neg (by omega), ← hz]; exact a5.2.2
    · rw [← hz]; exact a4
    · have a3' : isDust sa (sv.1 + 1) := a3
      obtain ⟨q1, q2, q3, q4, q5⟩ := a3'
      rw [← hz]
      refine ⟨q1, ?_, ?_, q4, q5⟩
      · show (if sv.1 + 1 = 1 ∧ 0 = ns then _ else sa.2.2.2 (sv.1 + 1) 0) = _
        rw [if_neg (by omega)]; exact q2
      · show (if sv.1 + 1 = 1 ∧ 1 = ns then _ else sa.2.2.2 (sv.1 + 1) 1) = _
        rw [if_neg (by omega)]; exact q3
  · exact up_s
  · rw [up_o (by omega), a7, if_neg (by omega), if_pos (by omega)]
  · rw [up_o (by omega), a7, if_pos (by omega)]
  · rw [up_o (by omega), a7, if_neg (by omega), if_neg (by omega), if_pos (by show sv.1 + 1 ≤ _ ∧ _ ≤ sv.1 + 1 + 3; omega)]
  · rw [up_o (by omega), a7, if_neg (by omega), if_neg (by omega), if_pos (by show sv.1 + 1 ≤ _ ∧ _ ≤ sv.1 + 1 + 3; omega)]
  · rw [up_at, if_neg hne, a7, if_neg (by omega), if_neg (by omega), if_neg (by show ¬ (sv.1 + 1 ≤ _ ∧ _); omega)]
    show (if a = sv.1 then 0 else vi a i) = _
    rw [if_neg (by omega)]
  · rw [a8 a i (by show a < sv.1 + 1; omega)]
    show (if a = sv.1 then 0 else vl a i) = _
    rw [if_neg (by omega)]
