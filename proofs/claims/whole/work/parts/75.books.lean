/-! BOOKS -/
theorem refusal_both {vi vm : VI} {vl : VL} (h : I_shelf vi vl) (hv : Agree vi vm) {s : Nat} (hs : s < 6) : ∃ r, fX9_refusalOfBytes (nI s) vi = some r ∧ fX10_rowFault (nI s) vm = some r ∧ (r = 0 ∨ r = -11 ∨ r = -12) := by
  have hb : 0 ≤ (nI s).toInt ∧ (nI s).toInt < (6 : Nat) := by rw [tnI (by omega)]; omega
  unfold fX9_refusalOfBytes fX10_rowFault fX6_isBytes
  simp only [if_inb hb, nI_clamp (show s < 2 ^ 31 by omega), ag hv 94 s (by omega), isRow_eq, Option.bind_some]
  rcases (h s hs).1 with ⟨h0, h94⟩ | ⟨h0, b, n, hb1, h94, hn, hbn, hn50⟩ | ⟨h0, q, hq, h2, h94⟩
  · rw [h0, h94]
    exact ⟨-11, by rw [if_pos rfl], by rw [if_pos rfl], Or.inr (Or.inl rfl)⟩
  · rw [h0, h94]
    refine ⟨-12, by simp (decide := true), ?_, Or.inr (Or.inr rfl)⟩
    rw [if_neg (by rw [teq, tnI (by omega), lm1]; omega), if_neg (by rw [teq, tnI (by omega), lm2]; omega)]
  · have e2 := m2 hq
    rw [h0, h94, h2]
    by_cases c : q = 0
    · subst c
      exact ⟨0, by simp (decide := true), by simp (decide := true), Or.inl rfl⟩
    · refine ⟨-12, ?_, ?_, Or.inr (Or.inr rfl)⟩
      · have : ¬ nI q = 0 := by rw [teq, tnI (by omega), l0]; omega
        simp (decide := true) [this]
      · rw [if_neg (by rw [teq, e2, lm1]; omega), if_neg (by rw [teq, e2, lm2]; omega)]
theorem at_eq {vl : VL} {s k : Nat} (hs : s < 6) (hk : k < 60) : fX10_at (nI s) (nI k) vl = some ((vl 96 (60 * s + k)).toInt32) := by
  unfold fX10_at
  have ek : (60 * nI s + nI k : Int32) = nI (60 * s + k) := by rw [show (60 : Int32) = nI 60 from rfl, pk_mul, nI_add]
  rw [ek, if_inb (by rw [tnI (by omega)]; omega), nI_clamp (by omega)]
theorem r1_33 {ns j o n : Nat} {vi vm : VI} (x : Int32) (h : R1 ns j o vi vm n) : R1 ns j o vi (j_up vm 63 33 x) n := by
  obtain ⟨k1, k2, k3, k4, k5, k6, k7⟩ := h
  have fr : ∀ a i, ¬ (a = 63 ∧ i = 33) → (j_up vm 63 33 x) a i = vm a i := fun a i q => by rw [up_at, if_neg q]
  exact ⟨k1, k2, k3, same_wm k4 fun a i q => fr a i (by unfold WQ at q; omega), dp_frame k5 (fun _ _ _ => rfl) (fun a i q => fr a i (by omega)), (fr 63 29 (by omega)).trans k6, fun p hp => (fr 66 p (by omega)).trans (k7 p hp)⟩
theorem book_loop {ns j s N z : Nat} {vl : VL} (hj : j < ns) (hs : s < 6) (hN : N ≤ 40) (hz : z ≤ 60) (evl : ∀ k, k < 60 → vl (51 + 2 * s + 1) k = vl 96 (60 * s + k)) : ∀ (m k n : Nat) (vi vm : VI), N - k = m → k ≤ N → R1 ns j 13 vi vm n → vi (51 + 2 * s) 3 = nI z → vm 95 s = nI z → ∃ vi' vm' n', (∀ F, m < F → fX9_thinkBook_17 (98 + 5 * j) (51 + 2 * s) vl F (nI N) (vm 63 33) (nI k) vi = some (vm' 63 33, vi')) ∧ (∀ F, m < F → fX10_goBook_13 vl F (nI s) (nI N) (nI k) vm = some vm') ∧ R1 ns j 13 vi' vm' n' ∧ (∀ a i, ¬ WL 13 a i → vi' a i = vi a i) ∧ ∀ a i, ¬ WQ a i → vm' a i = vm a i := by
  have hb : 0 ≤ (nI s).toInt ∧ (nI s).toInt < (6 : Nat) := by rw [tnI (by omega)]; omega
  have cs : (nI s).toNatClampNeg = s := nI_clamp (by omega)
  intro m
  induction m with
  | zero =>
    intro k n vi vm q1 q2 q3 w1 w2
    have : k = N := by omega
    subst this
    have c : nI k ≤ nI k := by rw [tle]; omega
    refine ⟨vi, vm, n, fun F hF => ?_, fun F hF => ?_, q3, fun _ _ _ => rfl, fun _ _ _ => rfl⟩
    · obtain ⟨F, rfl⟩ : ∃ F', F = F' + 1 := ⟨F - 1, by omega⟩
      rw [fX9_thinkBook_17, if_pos c]
    · obtain ⟨F, rfl⟩ : ∃ F', F = F' + 1 := ⟨F - 1, by omega⟩
      rw [fX10_goBook_13, if_pos c]
  | succ m ih =>
    intro k n vi vm q1 q2 q3 w1 w2
    have ek : (nI k).toInt = k := tnI (by omega)
    have c : ¬ nI N ≤ nI k := by rw [tle, ek, tnI (by omega)]; omega
    have c40 : ¬ (40 : Int32) ≤ nI k := by rw [tle, ek, l40]; omega
    have ck : (nI k).toNatClampNeg = k := nI_clamp (by omega)
    by_cases cz : nI z ≤ nI k
    · refine ⟨vi, vm, n, fun F hF => ?_, fun F hF => ?_, q3, fun _ _ _ => rfl, fun _ _ _ => rfl⟩
      · obtain ⟨F, rfl⟩ : ∃ F', F = F' + 1 := ⟨F - 1, by omega⟩
        rw [fX9_thinkBook_17, if_neg c, if_neg c40, w1, if_pos cz]
      · obtain ⟨F, rfl⟩ : ∃ F', F = F' + 1 := ⟨F - 1, by omega⟩
        rw [fX10_goBook_13, if_neg c, if_inb hb, cs, w2, if_pos cz]
    · have bk : 0 ≤ (nI k).toInt ∧ (nI k).toInt < (60 : Nat) := by omega
      have ea := at_eq (vl := vl) hs (show k < 60 by omega)
      have el := evl k (by omega)
      obtain ⟨e, he⟩ : ∃ e, e = (vl 96 (60 * s + k)).toInt32 := ⟨_, rfl⟩
      by_cases cl : 0 ≤ e.toInt ∧ e.toInt ≤ 65
      · obtain ⟨w, hw, ew1, ew2⟩ := whom_eq cl
        obtain ⟨u, hu, eu1, eu2⟩ := much_eq (vi := vi) (vm := vm) q3.2.1.2.2.2.2.1 q3.2.2.2.2.2.2 cl
        obtain ⟨r, vi1, r9, a1, a2, a3, vm1, a4, a5⟩ := gives_R1 hj (Or.inl rfl) q3 hw hu
        obtain ⟨l, g, vi2, vm2, n2, l9', b1, b2, b3, ⟨vm3, b4⟩, -, -, -, b33, b5, b6⟩ := lay_both hj (Or.inl rfl) a2 hw hu
        have erl : r = l := by
          have := Option.some.inj (a4.symm.trans b4)
          have := (Prod.mk.inj this).1
          rw [nI_inj (by omega) (by omega)] at this
          exact this
        subst erl
        have fr1 : ∀ a i, ¬ WL 13 a i → vi2 a i = vi a i := fun a i q => (b5 a i q).trans (a3 a i (by unfold WL at q; omega) (by unfold WL at q; omega) (by unfold WL at q; omega) (by unfold WL at q; omega))
        have d2 : vi 13 2 = nI n := q3.2.2.2.2.1.2.1
        have w1' : vi2 (51 + 2 * s) 3 = nI z := (fr1 _ _ (by unfold WL; omega)).trans w1
        have lk9 : fX9_isLooking e = some true := by rw [looking9_eq]; simp [cl]
        have lk10 : fX10_in e 0 65 = some true := by rw [in_eq]; simp [l0, l65, cl]
        by_cases cr : r = 0
        · subst cr
          have z0 : (j_up vm2 63 33 (vm2 63 33 + 1)) 63 33 = vm 63 33 + 1 := by rw [up_s, b33]
          obtain ⟨vi', vm', n', f1, f2, f3, f4, f5⟩ := ih (k + 1) n2 vi2 (j_up vm2 63 33 (vm2 63 33 + 1)) (by omega) (by omega) (r1_33 _ b3) w1' (by rw [up_o (by decide), b6 95 s (by unfold WQ; omega)]; exact w2)
          rw [z0] at f1
          refine ⟨vi', vm', n', fun F hF => ?_, fun F hF => ?_, f3, fun a i q => (f4 a i q).trans (fr1 a i q), fun a i q => ?_⟩
          · obtain ⟨F, rfl⟩ : ∃ F', F = F' + 1 := ⟨F - 1, by omega⟩
            rw [fX9_thinkBook_17, if_neg c, if_neg c40, w1, if_neg cz, if_inb bk, ck, el, ← he, lk9, Option.bind_some, if_pos rfl, ew1, Option.bind_some, eu1, Option.bind_some, d2, a1, Option.bind_some, if_pos (show nI 0 = 0 from rfl), fX9_thinkBook_96, b1, Option.bind_some, nI_1]
            exact f1 F (by omega)
          · obtain ⟨F, rfl⟩ : ∃ F', F = F' + 1 := ⟨F - 1, by omega⟩
            rw [fX10_goBook_13, if_neg c, if_inb hb, cs, w2, if_neg cz, ea, Option.bind_some, ← he, lk10, Option.bind_some, if_pos rfl, Option.bind_some, ew2, Option.bind_some, Option.bind_some, eu2, Option.bind_some, b2, Option.bind_some, if_pos (show nI 0 = 0 from rfl), fX10_goBook_85, nI_1]
            exact f2 F (by omega)
          · rw [f5 a i q, up_at, if_neg (by unfold WQ at q; omega), b6 a i q]
        · have nr : ¬ nI r = 0 := by rw [teq, tnI (by omega), l0]; omega
          obtain ⟨vi', vm', n', f1, f2, f3, f4, f5⟩ := ih (k + 1) n2 vi2 vm2 (by omega) (by omega) b3 w1' (by rw [b6 95 s (by unfold WQ; omega)]; exact w2)
          rw [b33] at f1
          refine ⟨vi', vm', n', fun F hF => ?_, fun F hF => ?_, f3, fun a i q => (f4 a i q).trans (fr1 a i q), fun a i q => (f5 a i q).trans (b6 a i q)⟩
          · obtain ⟨F, rfl⟩ : ∃ F', F = F' + 1 := ⟨F - 1, by omega⟩
            rw [fX9_thinkBook_17, if_neg c, if_neg c40, w1, if_neg cz, if_inb bk, ck, el, ← he, lk9, Option.bind_some, if_pos rfl, ew1, Option.bind_some, eu1, Option.bind_some, d2, a1, Option.bind_some, if_neg nr, fX9_thinkBook_96, b1, Option.bind_some, nI_1]
            exact f1 F (by omega)
          · obtain ⟨F, rfl⟩ : ∃ F', F = F' + 1 := ⟨F - 1, by omega⟩
            rw [fX10_goBook_13, if_neg c, if_inb hb, cs, w2, if_neg cz, ea, Option.bind_some, ← he, lk10, Option.bind_some, if_pos rfl, Option.bind_some, ew2, Option.bind_some, Option.bind_some, eu2, Option.bind_some, b2, Option.bind_some, if_neg nr, fX10_goBook_85, nI_1]
            exact f2 F (by omega)
      · have lk9 : fX9_isLooking e = some false := by rw [looking9_eq]; simp only [cl, decide_false]
        have lk10 : fX10_in e 0 65 = some false := by rw [in_eq, l0, l65]; simp only [cl, decide_false]
        refine ⟨vi, vm, n, fun F hF => ?_, fun F hF => ?_, q3, fun _ _ _ => rfl, fun _ _ _ => rfl⟩
        · obtain ⟨F, rfl⟩ : ∃ F', F = F' + 1 := ⟨F - 1, by omega⟩
          rw [fX9_thinkBook_17, if_neg c, if_neg c40, w1, if_neg cz, if_inb bk, ck, el, ← he, lk9, Option.bind_some, if_neg (by decide)]
        · obtain ⟨F, rfl⟩ : ∃ F', F = F' + 1 := ⟨F - 1, by omega⟩
          rw [fX10_goBook_13, if_neg c, if_inb hb, cs, w2, if_neg cz, ea, Option.bind_some, ← he, lk10, Option.bind_some, if_neg (by decide)]
theorem book_both {ns j s N : Nat} {vi vm : VI} {vl : VL} (hl : I_law vi) (hn : I_num ns vi) (hc : I_cache ns vi) (hd : I_dust ns vi) (hs : I_shelf vi vl) (hj : j < ns) (h6 : s < 6) (hN : N ≤ 40) (hv : Agree vi vm) : ∃ vi' vm' n, fX9_thinkBook (98 + 5 * j) (51 + 2 * s) (nI N) vi vl = some (vm' 63 33, vi') ∧ fX10_goBook (nI s) (nI N) (nI j) vm vl = some vm' ∧ DP vi' 13 vm' n ∧ Left ns vi vi' vm vm' := by
  obtain ⟨-, ⟨z, hz, z1, z2⟩, evl⟩ := hs s h6
  obtain ⟨n, vi1, vm1, a1, a2, a3, a4, a5⟩ := start_R1 hl hn hc hd hj hv
  obtain ⟨vi', vm', n', f1, f2, f3, f4, f5⟩ := book_loop hj h6 hN hz evl N 0 n vi1 (j_up vm1 63 33 0) (by omega) (by omega) (r1_33 0 a3) ((a4 _ _ (by unfold WL; omega)).trans z1) (by rw [up_o (by decide), a5 95 s (by unfold WQ; omega), ag hv 95 s (by omega)]; exact z2)
  rw [up_s] at f1
  refine ⟨vi', vm', n', ?_, ?_, f3.2.2.2.2.1, f3.2.2.1, fun a i q => (f4 a i q).trans (a4 a i q), fun a i q => ?_⟩
  · unfold fX9_thinkBook
    rw [a1, Option.bind_some]
    exact f1 FU (by rw [FU_eq]; omega)
  · unfold fX10_goBook
    rw [a2, Option.bind_some]
    exact f2 FU (by rw [FU_eq]; omega)
  · rw [f5 a i q, up_at, if_neg (by unfold WQ at q; omega), a5 a i q]
theorem p_later {ns : Nat} {vi : VI} {vl : VL} (hl : I_law vi) (hn : I_num ns vi) (hc : I_cache ns vi) (hd : I_dust ns vi) (hs : I_shelf vi vl) (x1 x2 x3 x4 : Int32) : Thought ns vi (fX9_later ns x1 x2 x3 x4 vi vl) (fun vm => fX10_later x1 x2 x3 x4 vm vl) := by
  have h5 := hn.1
  have n1 := hn.2.1
  have n2 := hn.2.2.1
  unfold fX9_later
  rw [sillAt_eq h5 n1]
  simp only [Option.bind_some, shelf9_eq, within_eq, decide_eq_true_eq, l40, l4]
  by_cases c : (0 ≤ x3.toInt ∧ x3.toInt < ns) ∧ (0 ≤ x1.toInt ∧ x1.toInt ≤ 5) ∧ (0 ≤ x2.toInt ∧ x2.toInt ≤ 40) ∧ (0 ≤ x4.toInt ∧ x4.toInt ≤ 4)
  · obtain ⟨c1, c2, c3, c4⟩ := c
    obtain ⟨j, hj, rfl⟩ := ex_nI c1.1 c1.2 (by omega)
    obtain ⟨s, h6, rfl⟩ := ex_nI (x := x1) (N := 6) c2.1 (by omega) (by omega)
    obtain ⟨N, hN, rfl⟩ := ex_nI (x := x2) (N := 41) c3.1 (by omega) (by omega)
    have hb : 0 ≤ (nI s).toInt ∧ (nI s).toInt < (6 : Nat) := by omega
    rw [if_pos c1, nI_clamp (by omega)]
    simp only [optS]
    rw [if_pos c2, if_pos c3, if_pos c4]
    refine thought_of fun vm hv => ?_
    obtain ⟨r0, a1, a2, a3⟩ := refusal_both hs hv h6
    simp only [fX10_later, fX10_areMany, shelf10_eq, isSill_eq h5 (agree_ns n2 hv), in_eq, Option.bind_some, decide_eq_true_eq, l0, l40, l4]
    rw [if_pos c2, if_pos c3, if_pos c1, if_pos c4, a1, a2]
    simp only [Option.bind_some]
    rcases a3 with rfl | rfl | rfl
    · rw [if_pos (show (0 : Int32) ≤ 0 by decide), if_inb hb, if_pos (show (0 : Int32) ≤ 0 by decide), nI_clamp (by omega)]
      obtain ⟨vi', vm', n, b1, b2, b3, b4⟩ := book_both hl hn hc hd hs hj h6 (show N ≤ 40 by omega) hv
      rw [b1, b2]
      simp only [Option.bind_some]
      by_cases d0 : x4 = 0
      · rw [if_pos d0, if_pos d0]
        exact ⟨_, vi', vm', rfl, by rw [b3.2.1, b3.2.2.1], b4⟩
      · rw [if_neg d0, if_neg d0]
        by_cases d1 : x4 = 1
        · rw [if_pos d1, if_pos d1]
          obtain ⟨q, -, -, q1, q2⟩ := allThick_both b3
          rw [q1, q2]
          exact ⟨_, vi', vm', rfl, rfl, b4⟩
        · rw [if_neg d1, if_neg d1]
          by_cases d2 : x4 = 2
          · rw [if_pos d2, if_pos d2]
            obtain ⟨q, -, -, q1, q2⟩ := readBits_both b3
            rw [q1, q2]
            exact ⟨_, vi', vm', rfl, rfl, b4⟩
          · rw [if_neg d2, if_neg d2]
            by_cases d3 : x4 = 3
            · rw [if_pos d3, if_pos d3]
              obtain ⟨q, q1, q2⟩ := most_both b3
              rw [q1, q2]
              exact ⟨_, vi', vm', rfl, rfl, b4⟩
            · rw [if_neg d3, if_neg d3]
              exact ⟨_, vi', vm', rfl, rfl, b4⟩
    · rw [if_neg (by decide), if_neg (by decide)]
      exact ⟨_, vi, vm, rfl, rfl, hc, fun _ _ _ => rfl, fun _ _ _ => rfl⟩
    · rw [if_neg (by decide), if_neg (by decide)]
      exact ⟨_, vi, vm, rfl, rfl, hc, fun _ _ _ => rfl, fun _ _ _ => rfl⟩
  · refine thought_same (r := -1) hc ?_ fun vm hv => ?_
    · by_cases c1 : 0 ≤ x3.toInt ∧ x3.toInt < ns
      · rw [if_pos c1]
        simp only [optS]
        by_cases c2 : 0 ≤ x1.toInt ∧ x1.toInt ≤ 5
        · rw [if_pos c2]
          by_cases c3 : 0 ≤ x2.toInt ∧ x2.toInt ≤ 40
          · rw [if_pos c3, if_neg (fun c4 => c ⟨c1, c2, c3, c4⟩)]
          · rw [if_neg c3]
        · rw [if_neg c2]
      · rw [if_neg c1]; rfl
    · simp only [fX10_later, fX10_areMany, shelf10_eq, isSill_eq h5 (agree_ns n2 hv), in_eq, Option.bind_some, decide_eq_true_eq, l0, l40, l4]
      by_cases c2 : 0 ≤ x1.toInt ∧ x1.toInt ≤ 5
      · rw [if_pos c2]
        by_cases c3 : 0 ≤ x2.toInt ∧ x2.toInt ≤ 40
        · rw [if_pos c3]
          by_cases c1 : 0 ≤ x3.toInt ∧ x3.toInt < ns
          · rw [if_pos c1, if_neg (fun c4 => c ⟨c1, c2, c3, c4⟩)]
          · rw [if_neg c1]
        · rw [if_neg c3]
      · rw [if_neg c2]
theorem p_laid {ns : Nat} {vi : VI} {vl : VL} (hl : I_law vi) (hn : I_num ns vi) (hc : I_cache ns vi) (hd : I_dust ns vi) (hs : I_shelf vi vl) (x1 x2 x3 x4 : Int32) : Thought ns vi (fX9_laid ns x1 x2 x3 x4 vi vl) (fun vm => fX10_laid x1 x2 x3 x4 vm vl) := by
  have h5 := hn.1
  have n1 := hn.2.1
  have n2 := hn.2.2.1
  unfold fX9_laid
  rw [sillAt_eq h5 n1]
  simp only [Option.bind_some, shelf9_eq, within_eq, decide_eq_true_eq, l40]
  by_cases c : (0 ≤ x3.toInt ∧ x3.toInt < ns) ∧ (0 ≤ x1.toInt ∧ x1.toInt ≤ 5) ∧ (0 ≤ x2.toInt ∧ x2.toInt ≤ 40) ∧ ¬ x4 < 0 ∧ (x4 - x4 / 10 * 10 ≤ 2)
  · obtain ⟨c1, c2, c3, c4, c5⟩ := c
    obtain ⟨j, hj, rfl⟩ := ex_nI c1.1 c1.2 (by omega)
    obtain ⟨s, h6, rfl⟩ := ex_nI (x := x1) (N := 6) c2.1 (by omega) (by omega)
    obtain ⟨N, hN, rfl⟩ := ex_nI (x := x2) (N := 41) c3.1 (by omega) (by omega)
    have hb : 0 ≤ (nI s).toInt ∧ (nI s).toInt < (6 : Nat) := by omega
    obtain ⟨y, hy, ey⟩ : ∃ y : Nat, y < 2147483648 ∧ x4 / 10 = nI y := by
      obtain ⟨k, hk, rfl⟩ := ex_nI (x := x4) (N := 2147483648) (by rw [tlt, l0] at c4; omega) (by have := thi x4; omega) (by omega)
      exact ⟨k / 10, by omega, ndiv k hk (d := 10) (by omega) (by omega)⟩
    rw [if_pos c1, nI_clamp (by omega)]
    simp only [optS]
    rw [if_pos c2, if_pos c3, if_neg c4, if_pos c5]
    refine thought_of fun vm hv => ?_
    obtain ⟨r0, a1, a2, a3⟩ := refusal_both hs hv h6
    simp only [fX10_laid, fX10_areMany, shelf10_eq, isSill_eq h5 (agree_ns n2 hv), in_eq, Option.bind_some, decide_eq_true_eq, l0, l40]
    rw [if_pos c2, if_pos c3, if_pos c1, if_neg c4, if_pos c5, a1, a2]
    simp only [Option.bind_some]
    rcases a3 with rfl | rfl | rfl
    · rw [if_pos (show (0 : Int32) ≤ 0 by decide), if_inb hb, if_pos (show (0 : Int32) ≤ 0 by decide), nI_clamp (by omega)]
      obtain ⟨vi', vm', n, b1, b2, b3, b4⟩ := book_both hl hn hc hd hs hj h6 (show N ≤ 40 by omega) hv
      rw [b1, b2]
      simp only [Option.bind_some]
      obtain ⟨q, hq⟩ : ∃ q, q = x4 - x4 / 10 * 10 := ⟨_, rfl⟩
      rw [← hq, ey]
      by_cases d2 : q = 2
      · rw [if_pos d2, if_pos d2]
        obtain ⟨r, q1, q2⟩ := unlike_both b3 (nI y)
        rw [q1, q2]
        exact ⟨_, vi', vm', rfl, rfl, b4⟩
      · rw [if_neg d2, if_neg d2, tells_eq b3.1 b3.2.1, b3.2.2.1, tnI hy]
        by_cases dy : y < n
        · have hn12 := b3.1
          have cy : nI y < nI n := by rw [tlt, tnI hy, tnI (by omega)]; omega
          have c0 : 0 ≤ (y : Int) ∧ (y : Int) < n := by omega
          rw [if_pos c0, if_pos cy]
          obtain ⟨g1, g2, -, -⟩ := b3.2.2.2 y dy
          have e1 : (y : Int).toNat = y := by omega
          have b13 : 0 ≤ (nI y).toInt ∧ (nI y).toInt < (13 : Nat) := by rw [tnI hy]; omega
          rw [e1, if_inb b13, if_inb b13, nI_clamp (by omega)]
          by_cases d0 : q = 0
          · rw [if_pos d0, if_pos d0, g1]
            exact ⟨_, vi', vm', rfl, rfl, b4⟩
          · rw [if_neg d0, if_neg d0, g2]
            exact ⟨_, vi', vm', rfl, rfl, b4⟩
        · have hn12 := b3.1
          have cy : ¬ nI y < nI n := by rw [tlt, tnI hy, tnI (by omega)]; omega
          have c0 : ¬ (0 ≤ (y : Int) ∧ (y : Int) < n) := by omega
          rw [if_neg c0, if_neg cy]
          exact ⟨_, vi', vm', rfl, rfl, b4⟩
    · rw [if_neg (by decide), if_neg (by decide)]
      exact ⟨_, vi, vm, rfl, rfl, hc, fun _ _ _ => rfl, fun _ _ _ => rfl⟩
    · rw [if_neg (by decide), if_neg (by decide)]
      exact ⟨_, vi, vm, rfl, rfl, hc, fun _ _ _ => rfl, fun _ _ _ => rfl⟩
  · refine thought_same (r := -1) hc ?_ fun vm hv => ?_
    · by_cases c1 : 0 ≤ x3.toInt ∧ x3.toInt < ns
      · rw [if_pos c1]
        simp only [optS]
        by_cases c2 : 0 ≤ x1.toInt ∧ x1.toInt ≤ 5
        · rw [if_pos c2]
          by_cases c3 : 0 ≤ x2.toInt ∧ x2.toInt ≤ 40
          · rw [if_pos c3]
            by_cases c4 : x4 < 0
            · rw [if_pos c4]
            · rw [if_neg c4, if_neg (fun c5 => c ⟨c1, c2, c3, c4, c5⟩)]
          · rw [if_neg c3]
        · rw [if_neg c2]
      · rw [if_neg c1]; rfl
    · simp only [fX10_laid, fX10_areMany, shelf10_eq, isSill_eq h5 (agree_ns n2 hv), in_eq, Option.bind_some, decide_eq_true_eq, l0, l40]
      by_cases c2 : 0 ≤ x1.toInt ∧ x1.toInt ≤ 5
      · rw [if_pos c2]
        by_cases c3 : 0 ≤ x2.toInt ∧ x2.toInt ≤ 40
        · rw [if_pos c3]
          by_cases c1 : 0 ≤ x3.toInt ∧ x3.toInt < ns
          · rw [if_pos c1]
            by_cases c4 : x4 < 0
            · rw [if_pos c4]
            · rw [if_neg c4, if_neg (fun c5 => c ⟨c1, c2, c3, c4, c5⟩)]
          · rw [if_neg c1]
        · rw [if_neg c3]
      · rw [if_neg c2]
