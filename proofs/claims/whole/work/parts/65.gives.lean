/-! what a LOOKING lays: the class's gives, the model's laysBy -/
def I_law (vi : VI) : Prop := (vi 63 28 = 0 ∧ vi 5 1 = 0) ∨ (vi 63 28 = 1 ∧ ∃ T : List (List Int32 × List Int32), T ≠ [] ∧ T.length ≤ 61 ∧ csz T ≤ 121 ∧ ssz T ≤ 121 ∧ vi 5 1 = nI (csz T) ∧ vi 77 0 = nI T.length ∧ linesAt vi vi 6 0 T 0 0 0)
theorem law_frame {vi vi' : VI} (h : I_law vi) (hf : ∀ o i, (o = 63 ∧ i = 28) ∨ (o = 5 ∧ i = 1) ∨ o = 6 ∨ (75 ≤ o ∧ o ≤ 79 ∧ ((o ≤ 76 ∧ i < 130) ∨ (o = 77 ∧ i = 0) ∨ (78 ≤ o ∧ i < 61))) → vi' o i = vi o i) : I_law vi' := by
  rcases h with ⟨h1, h2⟩ | ⟨h1, T, h2, h3, h4, h5, h6, h7, h8⟩
  · exact Or.inl ⟨(hf _ _ (by omega)).trans h1, (hf _ _ (by omega)).trans h2⟩
  · exact Or.inr ⟨(hf _ _ (by omega)).trans h1, T, h2, h3, h4, h5, (hf _ _ (by omega)).trans h6, (hf _ _ (by omega)).trans h7, lines_gen T _ _ _ (fun i _ _ => hf 6 i (by omega)) (fun k _ _ => ⟨hf 75 _ (by omega), hf 76 _ (by omega)⟩) (fun i _ _ => ⟨hf 78 _ (by omega), hf 79 _ (by omega)⟩) h8⟩
def clampR (x : Int32) : Int32 := if 0 < (if 9 < x then (9 : Int32) else x) then (if 9 < x then (9 : Int32) else x) else 0
theorem clamp_rng (x : Int32) : rng (clampR x) 0 9 := by
  unfold clampR rng
  simp only [tlt, l0, l9]
  by_cases c : 9 < x.toInt
  · simp only [if_pos c]; decide
  · simp only [if_neg c]
    by_cases c2 : 0 < x.toInt
    · rw [if_pos c2]; omega
    · rw [if_neg c2]; decide
theorem laysBy82 (x : Int32) (vm : VI) : fX10_laysBy_82 x vm = some (clampR x, vm) := by
  unfold fX10_laysBy_82 clampR
  simp only [tle, tlt, l0, l9]
  by_cases c : 0 ≤ x.toInt
  · rw [if_pos c]
    by_cases c2 : x.toInt ≤ 9
    · rw [if_pos c2]
      have e : (if 9 < x.toInt then (9 : Int32) else x) = x := if_neg (by omega)
      rw [e]
      by_cases c3 : 0 < x.toInt
      · rw [if_pos c3]
      · rw [if_neg c3]
        have : x = 0 := by rw [teq, l0]; omega
        rw [this]
    · rw [if_neg c2]
      have e : (if 9 < x.toInt then (9 : Int32) else x) = 9 := if_pos (by omega)
      rw [e, if_pos (by decide)]
  · rw [if_neg c]
    have e : (if 9 < x.toInt then (9 : Int32) else x) = x := if_neg (by omega)
    rw [e, if_neg (by omega)]
theorem csz_pos {T : List (List Int32 × List Int32)} (h : T ≠ []) : 0 < csz T := by
  cases T with
  | nil => exact absurd rfl h
  | cons a T => obtain ⟨t, v⟩ := a; simp only [csz]; omega
theorem csz_len : ∀ T : List (List Int32 × List Int32), T.length ≤ csz T
  | [] => Nat.le_refl _
  | (t, v) :: T => by simp only [csz, List.length_cons]; have := csz_len T; omega
theorem p_worth {ns j : Nat} {vi vm : VI} (hl : I_law vi) (hn : I_num ns vi) (hj : j < ns) (hv : LawSame j vi vm) (one much ly : Int32) : ∃ r0 vi', fX5_worth 5 much (vi (98 + 5 * j) 3) (vi (98 + 5 * j) 4) ly one vi = some (r0, vi') ∧ (∀ o i, ¬ (o = 5 ∧ i = 5) → o ≠ 7 → o ≠ 8 → vi' o i = vi o i) ∧ ∃ vm', fX10_laysBy (nI j) one much ly vm = some (clampR r0, vm') ∧ ∀ o i, o ≠ 80 → o ≠ 81 → vm' o i = vm o i := by
  obtain ⟨h5, n2, n3, n4, -, n6, -⟩ := hn
  obtain ⟨g1, g2, g3, g4⟩ := n4 j hj
  obtain ⟨w1, w2, w3, w4, w5⟩ := hv
  have bj : 0 ≤ (nI j).toInt ∧ (nI j).toInt < (5 : Nat) := by rw [tnI (by omega)]; omega
  have cj : (nI j).toNatClampNeg = j := nI_clamp (by omega)
  unfold fX5_worth fX10_laysBy
  rw [if_inb bj, if_inb bj, if_inb bj, cj, ← w4]
  rcases hl with ⟨h1, h2⟩ | ⟨h1, T, t1, t2, t3, t4, t5, t6, t7⟩
  · rw [if_pos h2, if_pos h1, laysBy82, g2, w2]
    refine ⟨_, vi, rfl, fun _ _ _ _ _ => rfl, vm, ?_, fun _ _ _ _ => rfl⟩
    congr 2
    unfold clampR
    simp only [tlt, l0, l9]
    generalize much - vm 65 j / 3 = d
    by_cases c : d.toInt < 0
    · simp only [if_pos c, l0]
      rw [if_neg (show ¬ (9 : Int) < d.toInt by omega), if_neg (by omega), if_neg (show ¬ (9 : Int) < 0 by omega), if_neg (by rw [l0]; omega)]
    · simp only [if_neg c]
  · have hc := csz_pos t1
    have hT := csz_len T
    rw [if_neg (by rw [t5, teq, tnI (by omega), l0]; omega), if_neg (by rw [h1]; decide), g1, g2, w1, w2]
    simp only [show (0 : Int32).toNatClampNeg = 0 from rfl, show (1 : Int32).toNatClampNeg = 1 from rfl, show (2 : Int32).toNatClampNeg = 2 from rfl, show (3 : Int32).toNatClampNeg = 3 from rfl, show (4 : Int32).toNatClampNeg = 4 from rfl, show (5 : Int32).toNatClampNeg = 5 from rfl, Nat.reduceAdd]
    simp (disch := decide) only [up_o]
    rw [n6, w3]
    -- the two pictures before
    obtain ⟨vc, hvc⟩ : ∃ vc, vc = j_up (j_up (j_up (j_up (j_up (j_up (j_up vi 7 0 much) 7 1 (vm 64 j)) 7 2 (vm 65 j)) 7 3 (vm 63 5)) 7 4 ly) 7 5 one) 5 5 0 := ⟨_, rfl⟩
    obtain ⟨vn, hvn⟩ : ∃ vn, vn = j_up (j_up (j_up (j_up (j_up (j_up vm 80 0 much) 80 1 (vm 64 j)) 80 2 (vm 65 j)) 80 3 (vm 63 5)) 80 4 ly) 80 5 one := ⟨_, rfl⟩
    rw [← hvc, ← hvn]
    have cf : ∀ o i, ¬ (o = 5 ∧ i = 5) → o ≠ 7 → vc o i = vi o i := fun o i q1 q2 => by rw [hvc, up_at, if_neg q1, up_o q2, up_o q2, up_o q2, up_o q2, up_o q2, up_o q2]
    have nf : ∀ o i, o ≠ 80 → vn o i = vm o i := fun o i q => by rw [hvn, up_o q, up_o q, up_o q, up_o q, up_o q, up_o q]
    have names : ∀ i, i < 6 → vc 7 i = vn 80 i := by
      intro i hi
      have hi6 : i = 0 ∨ i = 1 ∨ i = 2 ∨ i = 3 ∨ i = 4 ∨ i = 5 := by omega
      rw [hvc, hvn]
      rcases hi6 with rfl | rfl | rfl | rfl | rfl | rfl <;> simp [up_at]
    obtain ⟨v, vc', vm', y1, y2, y3, y4⟩ := text_both (r := 0) (S := csz T) (N := T.length) (by omega) t3 t2 T 0 0 0 vc vn (by rw [hvc, up_s]; rfl) names (lines_gen T _ _ _ (fun i _ _ => cf 6 i (by omega) (by omega)) (fun k _ _ => ⟨by rw [nf 75 _ (by omega)]; exact (w5 75 _ (by omega) (by omega)).symm, by rw [nf 76 _ (by omega)]; exact (w5 76 _ (by omega) (by omega)).symm⟩) (fun i _ _ => ⟨by rw [nf 78 _ (by omega)]; exact (w5 78 _ (by omega) (by omega)).symm, by rw [nf 79 _ (by omega)]; exact (w5 79 _ (by omega) (by omega)).symm⟩) t7) (by rw [cf 5 1 (by omega) (by omega)]; exact t5) (by omega) (by rw [nf 77 0 (by omega), ← w5 77 0 (by omega) (by omega)]; exact t6) (by omega) (by omega)
    refine ⟨v, vc', y1 FU (by rw [FU_eq]; omega), fun o i q1 q2 q3 => (y2 o i q1 q3).trans (cf o i q1 q2), vm', ?_, fun o i q1 q2 => (y4 o i q2).trans (nf o i q1)⟩
    unfold fX10_gives
    have := y3 FU (by rw [FU_eq]; omega)
    rw [show (61 * 0 : Int32) = nI (61 * 0 + 0) from rfl, show (0 : Int32) = nI 0 from rfl, this]
    simp only [Option.bind_some]
    rw [laysBy82]
theorem i8id {x : Int32} (h : -128 ≤ x.toInt ∧ x.toInt ≤ 127) : x.toInt8.toInt32 = x := by
  rw [teq, Int8.toInt_toInt32, Int32.toInt_toInt8]
  rw [Int.bmod_eq_of_le (by omega) (by omega)]
theorem p_gives {ns j : Nat} {vi : VI} (hl : I_law vi) (hn : I_num ns vi) (hc : I_cache ns vi) (hj : j < ns) {ly one much : Nat} (h1 : ly ≤ 12) (h2 : one < 6) (h3 : much < 10) : ∃ r vi', fX7_gives (98 + 5 * j) (nI ly) (nI one) (nI much) vi = some (r, vi') ∧ rng r 0 9 ∧ (∀ o i, ¬ (o = 5 ∧ i = 5) → o ≠ 7 → o ≠ 8 → o ≠ 102 + 5 * j → vi' o i = vi o i) ∧ I_cache ns vi' ∧ ∀ vm, LawSame j vi vm → ∃ vm', fX10_laysBy (nI j) (nI one) (nI much) (nI ly) vm = some (r, vm') ∧ ∀ o i, o ≠ 80 → o ≠ 81 → vm' o i = vm o i := by
  have h5 := hn.1
  have ep : ((nI ly * 6 + nI one) * 10 + nI much : Int32) = nI ((ly * 6 + one) * 10 + much) := by
    rw [show (6 : Int32) = nI 6 from rfl, show (10 : Int32) = nI 10 from rfl, pk_mul, nI_add, pk_mul, nI_add]
  have bp : 0 ≤ (nI ((ly * 6 + one) * 10 + much)).toInt ∧ (nI ((ly * 6 + one) * 10 + much)).toInt < (780 : Nat) := by rw [tnI (by omega)]; omega
  have cp : (nI ((ly * 6 + one) * 10 + much)).toNatClampNeg = (ly * 6 + one) * 10 + much := nI_clamp (by omega)
  unfold fX7_gives fX7_gives_81
  rw [ep, if_neg (by rw [tlt, l0]; omega), if_pos (by rw [tlt, show (780 : Int32).toInt = 780 from rfl]; omega), if_inb bp, if_inb bp, cp]
  simp only [show 98 + 5 * j + 4 = 102 + 5 * j by omega]
  by_cases cz : vi (102 + 5 * j) ((ly * 6 + one) * 10 + much) = 0
  · rw [if_pos cz]
    obtain ⟨r0, vi1, a1, a2, -⟩ := p_worth (vm := vi) hl hn hj ⟨rfl, rfl, rfl, rfl, fun _ _ _ _ => rfl⟩ (nI one) (nI much) (nI ly)
    rw [a1]
    simp only [Option.bind_some]
    rw [if_inb bp, if_inb bp, up_s]
    have cr := clamp_rng r0
    have e1 : (1 + clampR r0 : Int32).toInt = 1 + (clampR r0).toInt := by
      have := cr.1; have := cr.2
      rw [tadd (by rw [l1]; omega) (by rw [l1]; omega), l1]
    have e2 : (1 + clampR r0 : Int32).toInt8.toInt32.toInt8.toInt32 = 1 + clampR r0 := by
      have := cr.1; have := cr.2
      rw [i8id (x := 1 + clampR r0) (by omega), i8id (by omega)]
    rw [show (1 + (if 0 < (if 9 < r0 then (9 : Int32) else r0) then (if 9 < r0 then (9 : Int32) else r0) else 0) : Int32) = 1 + clampR r0 from rfl, e2]
    have e3 : (1 + clampR r0 - 1 : Int32) = clampR r0 := by
      have := cr.1; have := cr.2
      rw [teq, tsub (by rw [l1]; omega) (by rw [l1]; omega), e1, l1]; omega
    have all : ∀ vm, LawSame j vi vm → ∃ vm', fX10_laysBy (nI j) (nI one) (nI much) (nI ly) vm = some (clampR r0, vm') ∧ ∀ o i, o ≠ 80 → o ≠ 81 → vm' o i = vm o i := by
      intro vm hv
      obtain ⟨r1, vi2, b1, b2, vm', b3, b4⟩ := p_worth (vm := vm) hl hn hj hv (nI one) (nI much) (nI ly)
      have : r1 = r0 := by
        rw [a1] at b1
        exact (Prod.mk.inj (Option.some.inj b1)).1.symm
      subst this
      exact ⟨vm', b3, b4⟩
    have fr : ∀ o i, ¬ (o = 5 ∧ i = 5) → o ≠ 7 → o ≠ 8 → ¬ (o = 102 + 5 * j ∧ i = (ly * 6 + one) * 10 + much) → (j_up vi1 (102 + 5 * j) ((ly * 6 + one) * 10 + much) (1 + clampR r0)) o i = vi o i := fun o i q1 q2 q3 q4 => by rw [up_at, if_neg q4, a2 o i q1 q2 q3]
    rw [e3]
    refine ⟨_, _, rfl, cr, fun o i q1 q2 q3 q4 => fr o i q1 q2 q3 (by omega), ?_, all⟩
    intro t ht ly' one' much' k1 k2 k3
    by_cases ct : t = j ∧ (ly' * 6 + one') * 10 + much' = (ly * 6 + one) * 10 + much
    · obtain ⟨rfl, c2⟩ := ct
      obtain ⟨rfl, rfl, rfl⟩ : ly' = ly ∧ one' = one ∧ much' = much := by omega
      rw [up_s]
      refine Or.inr ⟨⟨by have := cr.1; omega, by have := cr.2; omega⟩, fun vm hv => ?_⟩
      rw [e3]
      obtain ⟨b1, b2, b3, b4, b5⟩ := hv
      exact all vm ⟨(fr _ _ (by omega) (by omega) (by omega) (by omega)).symm.trans b1, (fr _ _ (by omega) (by omega) (by omega) (by omega)).symm.trans b2, (fr _ _ (by omega) (by omega) (by omega) (by omega)).symm.trans b3, (fr _ _ (by omega) (by omega) (by omega) (by omega)).symm.trans b4, fun o i p q => (fr o i (by omega) (by omega) (by omega) (by omega)).symm.trans (b5 o i p q)⟩
    · rw [fr (102 + 5 * t) _ (by omega) (by omega) (by omega) (by omega)]
      rcases hc t ht ly' one' much' k1 k2 k3 with g | ⟨g1, g2⟩
      · exact Or.inl g
      · refine Or.inr ⟨g1, fun vm hv => g2 vm ?_⟩
        obtain ⟨b1, b2, b3, b4, b5⟩ := hv
        exact ⟨(fr _ _ (by omega) (by omega) (by omega) (by omega)).symm.trans b1, (fr _ _ (by omega) (by omega) (by omega) (by omega)).symm.trans b2, (fr _ _ (by omega) (by omega) (by omega) (by omega)).symm.trans b3, (fr _ _ (by omega) (by omega) (by omega) (by omega)).symm.trans b4, fun o i p q => (fr o i (by omega) (by omega) (by omega) (by omega)).symm.trans (b5 o i p q)⟩
  · rw [if_neg cz]
    rcases hc j hj ly one much h1 h2 h3 with g | ⟨g1, g2⟩
    · exact absurd g cz
    · refine ⟨_, vi, rfl, ?_, fun _ _ _ _ _ _ => rfl, hc, g2⟩
      have := g1.1; have := g1.2
      have e : (vi (102 + 5 * j) ((ly * 6 + one) * 10 + much) - 1).toInt = (vi (102 + 5 * j) ((ly * 6 + one) * 10 + much)).toInt - 1 := by rw [tsub (by rw [l1]; omega) (by rw [l1]; omega), l1]
      exact ⟨by omega, by omega⟩
