/-! OK1 -/
theorem isBytes_eq (o : Nat) (vi : VI) : fX6_isBytes o vi = some (decide (vi o 0 = 2 ∧ vi o 2 = 0)) := by
  unfold fX6_isBytes
  rw [isRow_eq, Option.bind_some]
  by_cases c : vi o 0 = 2
  · by_cases c2 : vi o 2 = 0
    · simp [c, c2]
    · simp [c, c2]
  · simp [c]
theorem FU_s : ∃ F, FU = F + 1 := ⟨99999, rfl⟩
theorem sills_C {ns s n : Nat} {sv : SV} {vi : VI} {vl : VL} {x2 : Int32} (hW : WF sv ns) (h6 : s < 6) (h1 : 1 ≤ n) (h2 : n ≤ 5) : fX9_sills (nI s) x2 (nI n) sv vi vl = if vi (51 + 2 * s) 0 = 0 then some (0, sv, vi, vl) else if vi (51 + 2 * s) 0 = 2 ∧ vi (51 + 2 * s) 2 = 0 then (if 0 ≤ x2 then fX9_sills_57 FU x2 (nI n) (51 + 2 * s) 0 sv vi vl 0 0 else some (0, sv, vi, vl)) else some (-12, sv, vi, vl) := by
  have bs : 0 ≤ (nI s).toInt ∧ (nI s).toInt < (6 : Nat) := by rw [tnI (by omega)]; omega
  have cs : (nI s).toNatClampNeg = s := nI_clamp (by omega)
  obtain ⟨w1, w2, w3, w4⟩ := wf_198 hW s h6
  have rf : sv.2.2.2 0 13 = 50 + 1 := wf_149 hW
  have sh : fX9_isShelf (nI s) = some true := by rw [shelf9_eq, decide_eq_true (by omega)]
  have bud : 0 ≤ 25 ∧ 0 ≤ 4060 := by decide
  have nlt : ¬ nI n < 1 := by rw [tlt, l1, tnI (by omega)]; omega
  have nle : nI n ≤ 5 := by rw [tle, l5, tnI (by omega)]; omega
  unfold fX9_sills
  generalize FU = N
  rw [if_pos bud, sh, Option.bind_some, if_pos rfl, if_neg nlt, if_pos nle, if_ob (wf_2 hW)]
  simp only [rf]
  rw [if_pos (by decide), show 50 + 1 - 1 = 50 from rfl, if_ar (wf_52 hW), if_inb bs]
  simp only [cs, w1]
  rw [if_pos (Nat.succ_pos _), show 51 + 2 * s + 1 - 1 = 51 + 2 * s from rfl, if_ob w2]
  by_cases c0 : vi (51 + 2 * s) 0 = 0
  · rw [if_pos c0, if_pos c0, if_pos bud]
  · rw [if_neg c0, if_neg c0, if_sh ⟨w2, w3, w4⟩, if_pos bud, isBytes_eq, Option.bind_some]
    by_cases c1 : vi (51 + 2 * s) 0 = 2 ∧ vi (51 + 2 * s) 2 = 0
    · rw [if_pos (decide_eq_true c1), if_pos c1]
      by_cases c2 : 0 ≤ x2
      · rw [if_pos c2, if_pos c2]
      · rw [if_neg c2, if_neg c2, if_pos bud]
    · rw [if_neg (by rw [decide_eq_true_eq]; exact c1), if_neg c1, if_pos bud]
theorem sills_M {s n : Nat} {vi : VI} {vl : VL} {x2 : Int32} (h6 : s < 6) (h1 : 1 ≤ n) (h2 : n ≤ 5) : fX10_sills (nI s) x2 (nI n) vi vl = if vi 94 s = -1 then some (0, vi) else if vi 94 s = -2 then fX10_sills_57 vl FU (nI s) x2 (nI n) 0 vi else some (-12, vi) := by
  have bs : 0 ≤ (nI s).toInt ∧ (nI s).toInt < (6 : Nat) := by rw [tnI (by omega)]; omega
  have cs : (nI s).toNatClampNeg = s := nI_clamp (by omega)
  have sh : fX10_isShelf (nI s) = some true := by rw [shelf10_eq, decide_eq_true (by omega)]
  have nin : fX10_in (nI n) 1 5 = some true := by rw [in_eq, decide_eq_true (by rw [l1, l5, tnI (by omega)]; omega)]
  unfold fX10_sills fX10_sills_42
  generalize FU = N
  rw [sh, Option.bind_some, if_pos rfl, nin, Option.bind_some, if_pos rfl, if_inb bs, if_inb bs, if_inb bs, cs]
  by_cases q : vi 94 s = -1
  · rw [if_pos q, if_pos q, if_pos q]
  · rw [if_neg q, if_neg q, if_neg q]
theorem sills_bad {sv : SV} {vi : VI} {vl : VL} {x1 x2 x3 : Int32} (h : ¬ ((0 ≤ x1.toInt ∧ x1.toInt ≤ 5) ∧ (1 ≤ x3.toInt ∧ x3.toInt ≤ 5))) : fX9_sills x1 x2 x3 sv vi vl = some (-1, sv, vi, vl) ∧ fX10_sills x1 x2 x3 vi vl = some (-1, vi) := by
  have bud : 0 ≤ 25 ∧ 0 ≤ 4060 := by decide
  unfold fX9_sills fX10_sills fX10_sills_42
  generalize FU = N
  by_cases c1 : 0 ≤ x1.toInt ∧ x1.toInt ≤ 5
  · have s9 : fX9_isShelf x1 = some true := by rw [shelf9_eq, decide_eq_true c1]
    have s10 : fX10_isShelf x1 = some true := by rw [shelf10_eq, decide_eq_true c1]
    have c3 : ¬ (1 ≤ x3.toInt ∧ x3.toInt ≤ 5) := fun c3 => h ⟨c1, c3⟩
    have i3 : fX10_in x3 1 5 = some false := by rw [in_eq, l1, l5, decide_eq_false c3]
    rw [if_pos bud, s9, s10, i3, Option.bind_some, Option.bind_some, Option.bind_some, if_pos rfl, if_pos rfl]
    refine ⟨?_, rfl⟩
    by_cases q : x3 < 1
    · rw [if_pos q, if_pos bud]
    · have q2 : ¬ x3 ≤ 5 := by
        rw [tlt, l1] at q
        rw [tle, l5]
        omega
      rw [if_neg q, if_neg q2, if_pos bud]
  · have s9 : fX9_isShelf x1 = some false := by rw [shelf9_eq, decide_eq_false c1]
    have s10 : fX10_isShelf x1 = some false := by rw [shelf10_eq, decide_eq_false c1]
    have ff : ¬ (false = true) := by decide
    rw [if_pos bud, s9, s10, Option.bind_some, Option.bind_some, if_neg ff, if_neg ff, if_pos bud]
    exact ⟨rfl, rfl⟩
theorem sills_neg {vl : VL} {vi : VI} {x1 x2 : Int32} {n : Nat} (h1 : 1 ≤ n) (h2 : n ≤ 5) (c2 : ¬ 0 ≤ x2) : fX10_sills_57 vl FU x1 x2 (nI n) 0 vi = some (0, vi) := by
  obtain ⟨F, hF⟩ := FU_s
  rw [hF, fX10_sills_57, if_neg (by rw [tle, l0, tnI (by omega)]; omega), if_pos]
  rw [lg_cmp_lt, Int64.lt_iff_toInt_lt, Int64.toInt_add, Int32.toInt_toInt64, Int32.toInt_toInt64, show (2 * 0 : Int32).toInt = 0 from rfl, show (0 : Int64).toInt = 0 from rfl]
  rw [tle, l0] at c2
  have := tlo x2
  rw [Int.bmod_eq_of_le (by omega) (by omega)]
  omega
theorem ok1_row {ns s n p q : Nat} {sv : SV} {vi : VI} {vl : VL} (hW : WF sv ns) (h : INV ns vi vl) (h6 : s < 6) (h1 : 1 ≤ n) (h2 : n ≤ 5) (hp : p < 2147483648) (b0 : vi (51 + 2 * s) 0 = 2 ∧ vi (51 + 2 * s) 2 = 0) (b1 : vi 94 s = -2) : ∃ (r : Int32) (sv1 : SV) (vi1 : VI) (vl1 : VL), fX9_sills (nI s) (nI p) (nI n) sv vi vl = some (r, sv1, vi1, vl1) ∧ ∃ (vi2 : VI), fX10_sills (nI s) (nI p) (nI n) vi1 vl1 = some (r, vi2) ∧ ∃ ns' : Nat, WF sv1 ns' ∧ INV ns' vi2 vl1 := by
  have h5 : ns ≤ 5 := h.1.1
  have n1 := h.1.2.1
  have n2 := h.1.2.2.1
  have hsh : I_shelf vi vl := h.2.2.2.2.2.2.2.2.1
  obtain ⟨-, ⟨z, hz, z1, z2⟩, evl⟩ := hsh s h6
  obtain ⟨m, m1, m2', m3⟩ := come_many vl ns s p z n
  have hm5 : ns + m ≤ 5 := by
    by_cases q : m = 0
    · omega
    · have := (m2' (m - 1) (by omega)).2.2.1; omega
  obtain ⟨sv1, vi1, vl1, a1, a2, a3, a4, a5, a6⟩ := sillsC_loop (n := n) (vl0 := vl) h6 hz h2 hp m2' m3 m1 (fun k hk => by rw [show 52 + 2 * s = 51 + 2 * s + 1 by omega]; exact evl k hk) m 0 sv vi vl (Nat.sub_zero _) (Nat.zero_le _) hW n1 z1 (fun _ _ _ => rfl)
  have a1' := a1 FU (by rw [FU_eq]; omega)
  rw [Nat.mul_zero] at a1'
  have ncomes : ∀ k, comes vl1 ns s p z n k ↔ comes vl ns s p z n k := by
    intro k
    unfold comes nums
    rw [a6 96 _ (by omega), a6 96 _ (by omega)]
  obtain ⟨vi2, e1, e2, e3, e4⟩ := sillsM_loop (vl := vl1) (n := n) h6 hz h2 hp (fun k hk => (ncomes k).mpr (m2' k hk)) (fun q => m3 ((ncomes m).mp q)) m1 hm5 m 0 vi1 (Nat.sub_zero _) (Nat.zero_le _) (by rw [a5 63 1 (by omega) (by omega)]; exact n2) (by rw [a5 95 s (by omega) (by omega)]; exact z2)
  have e1' := e1 FU (by rw [FU_eq]; omega)
  have h0' : vi1 94 s = -2 := (a5 94 s (by omega) (by omega)).trans b1
  refine ⟨nI m, sv1, vi1, vl1, ?_, vi2, ?_, ns + m, a2, inv_more (hs := fun t => (nums vl s p t).1) (gs := fun t => (nums vl s p t).2) h hm5 ?_ e2 (fun t ht => ?_) (fun a i y1 y2 y3 y4 => ?_) a6⟩
  · rw [sills_C hW h6 h1 h2, if_neg (by rw [b0.1]; decide), if_pos b0, if_pos (by rw [tle, l0, tnI (by omega)]; omega)]
    rw [show (0 : Int32) = nI 0 from rfl]
    exact a1'
  · rw [sills_M h6 h1 h2, h0', if_neg (by decide), if_pos rfl]
    rw [show (0 : Int32) = nI 0 from rfl]
    exact e1'
  · rw [e4 0 1 (by omega) (by omega)]; exact a3
  · obtain ⟨f1, f2, f3, f4⟩ := a4 t (by omega) ht
    obtain ⟨f5, f6, f7⟩ := e3 t (by omega) ht
    have nn : nums vl1 s p t = nums vl s p t := by
      unfold nums
      rw [a6 96 _ (by omega), a6 96 _ (by omega)]
    rw [nn] at f5 f6
    rw [e4 (98 + 5 * (ns + t)) 3 (by omega) (by omega), e4 (98 + 5 * (ns + t)) 4 (by omega) (by omega), e4 (99 + 5 * (ns + t)) 2 (by omega) (by omega)]
    have cm := m2' t ht
    exact ⟨cm.2.2.2.1, cm.2.2.2.2, f1, f2, f5, f6, f7, f3, fun i => by rw [e4 (102 + 5 * (ns + t)) i (by omega) (by omega)]; exact f4 i⟩
  · rw [e4 a i y3 (by omega), a5 a i (by omega) y2]
theorem ok1 : OK1 INV := by
  intro ns sv vi vl x1 x2 x3 hW h
  have same : ∀ r : Int32, fX9_sills x1 x2 x3 sv vi vl = some (r, sv, vi, vl) → fX10_sills x1 x2 x3 vi vl = some (r, vi) → ∃ (r : Int32) (sv1 : SV) (vi1 : VI) (vl1 : VL), fX9_sills x1 x2 x3 sv vi vl = some (r, sv1, vi1, vl1) ∧ ∃ (vi2 : VI), fX10_sills x1 x2 x3 vi1 vl1 = some (r, vi2) ∧ ∃ ns' : Nat, WF sv1 ns' ∧ INV ns' vi2 vl1 := fun r e1 e2 => ⟨r, sv, vi, vl, e1, vi, e2, ns, hW, h⟩
  by_cases c : (0 ≤ x1.toInt ∧ x1.toInt ≤ 5) ∧ (1 ≤ x3.toInt ∧ x3.toInt ≤ 5)
  · obtain ⟨c1, c3⟩ := c
    obtain ⟨s, h6, rfl⟩ := ex_nI (x := x1) (N := 6) c1.1 (by omega) (by omega)
    obtain ⟨n, hn, rfl⟩ := ex_nI (x := x3) (N := 6) (by omega) (by omega) (by omega)
    have en : (nI n).toInt = n := tnI (by omega)
    have h1 : 1 ≤ n := by omega
    have h2 : n ≤ 5 := by omega
    have hk : shelfIs vi s := (h.2.2.2.2.2.2.2.2.1 s h6).1
    have C := sills_C (s := s) (n := n) (vi := vi) (vl := vl) (x2 := x2) hW h6 h1 h2
    have M := sills_M (s := s) (n := n) (vi := vi) (vl := vl) (x2 := x2) h6 h1 h2
    rcases hk with ⟨h0, h94⟩ | ⟨h0, b, nb, hb1, h94, hnb, hbn, hn50⟩ | ⟨h0, q, hq, hq2, h94⟩
    · exact same 0 (C.trans (if_pos h0)) (M.trans (if_pos h94))
    · have k1 : ¬ vi (51 + 2 * s) 0 = 0 := by rw [h0]; decide
      have k2 : ¬ (vi (51 + 2 * s) 0 = 2 ∧ vi (51 + 2 * s) 2 = 0) := by rw [h0]; exact fun w => absurd w.1 (by decide)
      have k3 : ¬ vi 94 s = -1 := by rw [h94, teq, tnI (by omega), lm1]; omega
      have k4 : ¬ vi 94 s = -2 := by rw [h94, teq, tnI (by omega), lm2]; omega
      exact same (-12) (C.trans ((if_neg k1).trans (if_neg k2))) (M.trans ((if_neg k3).trans (if_neg k4)))
    · have e2 := m2 hq
      have k1 : ¬ vi (51 + 2 * s) 0 = 0 := by rw [h0]; decide
      have k3 : ¬ vi 94 s = -1 := by rw [h94, teq, e2, lm1]; omega
      by_cases cq : q = 0
      · subst cq
        have k2 : vi (51 + 2 * s) 0 = 2 ∧ vi (51 + 2 * s) 2 = 0 := ⟨h0, hq2⟩
        have k4 : vi 94 s = -2 := by rw [h94, teq, e2, lm2]; omega
        by_cases c2 : 0 ≤ x2
        · obtain ⟨p, hp, rfl⟩ := ex_nI (x := x2) (N := 2147483648) (by rw [tle, l0] at c2; exact c2) (by have := thi x2; omega) (by omega)
          exact ok1_row (q := 0) hW h h6 h1 h2 hp k2 k4
        · exact same 0 (C.trans ((if_neg k1).trans ((if_pos k2).trans (if_neg c2)))) (M.trans ((if_neg k3).trans ((if_pos k4).trans (sills_neg h1 h2 c2))))
      · have k2 : ¬ (vi (51 + 2 * s) 0 = 2 ∧ vi (51 + 2 * s) 2 = 0) := by
          rw [hq2]
          intro w
          have := w.2
          rw [teq, tnI (by omega), l0] at this
          omega
        have k4 : ¬ vi 94 s = -2 := by rw [h94, teq, e2, lm2]; omega
        exact same (-12) (C.trans ((if_neg k1).trans (if_neg k2))) (M.trans ((if_neg k3).trans (if_neg k4)))
  · obtain ⟨b1, b2⟩ := sills_bad (sv := sv) (vi := vi) (vl := vl) c
    exact same (-1) b1 b2
