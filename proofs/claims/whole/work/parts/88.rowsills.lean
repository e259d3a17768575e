/-! SILLS FROM A ROW -/
theorem okd {x : Int32} (c : 0 ≤ x.toInt ∧ x.toInt ≤ 9) : fX9_isWithin x 9 = some true := by rw [within_eq]; simp [l9, c]
theorem sill_full {ns : Nat} {sv : SV} {vi : VI} {vl : VL} {x1 x2 : Int32} (hW : WF sv ns) (n1 : vi 0 1 = nI ns) (hn : ¬ ((0 ≤ x1.toInt ∧ x1.toInt ≤ 9) ∧ (0 ≤ x2.toInt ∧ x2.toInt ≤ 9) ∧ ns < 5)) : ∃ r, fX9_sill x1 x2 sv vi vl = some (r, sv, vi, vl) ∧ r < 0 := by
  have h5 := wf_0 hW
  unfold fX9_sill
  simp only [optL]
  rw [if_pos (by decide), within_eq, Option.bind_some, within_eq, Option.bind_some]
  by_cases c1 : 0 ≤ x1.toInt ∧ x1.toInt ≤ 9
  · rw [if_pos (by simp [l9, c1]), if_pos (by decide)]
    by_cases c2 : 0 ≤ x2.toInt ∧ x2.toInt ≤ 9
    · have e5 : ns = 5 := by
        by_cases q : ns < 5
        · exact absurd ⟨c1, c2, q⟩ hn
        · omega
      rw [if_pos (by simp [l9, c2]), if_ob (wf_2 hW), n1, if_neg (by rw [tlt, l5, tnI (by omega)]; omega), if_pos (by decide)]
      exact ⟨_, rfl, by decide⟩
    · rw [if_neg (by rw [decide_eq_true_eq]; exact c2), if_pos (by decide)]
      exact ⟨_, rfl, by decide⟩
  · rw [if_neg (by rw [decide_eq_true_eq]; exact c1), if_pos (by decide)]
    exact ⟨_, rfl, by decide⟩
/-- the numbers that a place of a ROW tells -/
def nums (vl : VL) (s p k : Nat) : Int32 × Int32 := ((vl 96 (60 * s + (p + 2 * k))).toInt32, (vl 96 (60 * s + (p + 2 * k + 1))).toInt32)
/-- whether the k-th one comes -/
def comes (vl : VL) (ns s p z n k : Nat) : Prop := k < n ∧ p + 2 * k + 1 < z ∧ ns + k < 5 ∧ (0 ≤ (nums vl s p k).1.toInt ∧ (nums vl s p k).1.toInt ≤ 9) ∧ (0 ≤ (nums vl s p k).2.toInt ∧ (nums vl s p k).2.toInt ≤ 9)
theorem come_many (vl : VL) (ns s p z n : Nat) : ∃ m, m ≤ n ∧ (∀ k, k < m → comes vl ns s p z n k) ∧ ¬ comes vl ns s p z n m := by
  have key : ∀ d k, n - k = d → k ≤ n → (∀ i, i < k → comes vl ns s p z n i) → ∃ m, m ≤ n ∧ (∀ k, k < m → comes vl ns s p z n k) ∧ ¬ comes vl ns s p z n m := by
    intro d
    induction d with
    | zero =>
      intro k h1 h2 h3
      exact ⟨k, h2, h3, fun q => by have := q.1; omega⟩
    | succ d ih =>
      intro k h1 h2 h3
      by_cases c : comes vl ns s p z n k
      · exact ih (k + 1) (by omega) (by omega) fun i hi => by
          by_cases ci : i = k
          · rw [ci]; exact c
          · exact h3 i (by omega)
      · exact ⟨k, h2, h3, c⟩
  exact key n 0 (by omega) (by omega) fun i hi => absurd hi (by omega)
theorem sillsC_loop {ns s p z n m : Nat} {vl0 : VL} (h6 : s < 6) (hz : z ≤ 60) (hn : n ≤ 5) (hp : p < 2147483648) (hm : ∀ k, k < m → comes vl0 ns s p z n k) (hm2 : ¬ comes vl0 ns s p z n m) (hmn : m ≤ n) (evl : ∀ k, k < 60 → vl0 (52 + 2 * s) k = vl0 96 (60 * s + k)) : ∀ (d k : Nat) (sv : SV) (vi : VI) (vl : VL), m - k = d → k ≤ m → WF sv (ns + k) → vi 0 1 = nI (ns + k) → vi (51 + 2 * s) 3 = nI z → (∀ a i, a < 98 → vl a i = vl0 a i) → ∃ sv' vi' vl', (∀ F, d < F → fX9_sills_57 F (nI p) (nI n) (51 + 2 * s) (nI k) sv vi vl (5 * k) (812 * k) = some (nI m, sv', vi', vl')) ∧ WF sv' (ns + m) ∧ vi' 0 1 = nI (ns + m) ∧ (∀ t, k ≤ t → t < m → vi' (98 + 5 * (ns + t)) 3 = (nums vl0 s p t).1 ∧ vi' (98 + 5 * (ns + t)) 4 = (nums vl0 s p t).2 ∧ vi' (99 + 5 * (ns + t)) 2 = 0 ∧ ∀ i, vi' (102 + 5 * (ns + t)) i = 0) ∧ (∀ a i, a < 98 + 5 * (ns + k) → ¬ (a = 0 ∧ i = 1) → vi' a i = vi a i) ∧ ∀ a i, a < 98 → vl' a i = vl0 a i := by
  intro d
  induction d with
  | zero =>
    intro k sv vi vl q1 q2 hW n1 z1 hl
    have ek : k = m := by omega
    subst ek
    have w := wf_198 hW s h6
    obtain ⟨w1, w2, w3, w4⟩ := w
    refine ⟨sv, vi, vl, fun F hF => ?_, hW, n1, fun t a b => absurd a (by omega), fun _ _ _ _ => rfl, hl⟩
    obtain ⟨F, rfl⟩ : ∃ F', F = F' + 1 := ⟨F - 1, by omega⟩
    rw [fX9_sills_57]
    have bud : 5 * k ≤ 25 ∧ 812 * k ≤ 4060 := by omega
    by_cases c1 : n ≤ k
    · rw [if_pos (by rw [tle, tnI (by omega), tnI (by omega)]; omega), if_pos bud]
    · rw [if_neg (by rw [tle, tnI (by omega), tnI (by omega)]; omega), if_ob w2, z1]
      have es : (nI z - nI p).toInt = (z : Int) - p := by rw [tsub (by rw [tnI (by omega), tnI (by omega)]; omega) (by rw [tnI (by omega), tnI (by omega)]; omega), tnI (by omega), tnI (by omega)]
      have e2 : (2 * nI k + 1 : Int32) = nI (2 * k + 1) := by rw [show (2 : Int32) = nI 2 from rfl, nI_mul, nI_1]
      by_cases c2 : z ≤ p + (2 * k + 1)
      · rw [if_pos (by rw [tle, es, e2, tnI (by omega)]; omega), if_pos bud]
      · rw [if_neg (by rw [tle, es, e2, tnI (by omega)]; omega), if_ob w2, w3, if_pos (by omega), show 51 + 2 * s + 1 + 1 - 1 = 51 + 2 * s + 1 by omega, if_ar w4]
        have x1 : (nI p + 2 * nI k : Int32) = nI (p + 2 * k) := by rw [show (2 : Int32) = nI 2 from rfl, nI_mul, nI_add]
        rw [x1, nI_1, if_inb (by rw [tnI (by omega)]; omega), if_ob w2, if_pos (by omega), if_ar w4, if_inb (by rw [tnI (by omega)]; omega), if_ob (wf_2 hW), if_pos (by have := wf_0 hW; omega), nI_clamp (by omega), nI_clamp (by omega), show 51 + 2 * s + 1 = 52 + 2 * s by omega, hl _ _ (by omega), hl _ _ (by omega), evl _ (by omega), evl _ (by omega)]
        obtain ⟨r, f1, f2⟩ := sill_full (x1 := (nums vl0 s p k).1) (x2 := (nums vl0 s p k).2) (vl := vl) hW n1 (fun q => hm2 ⟨by omega, by omega, q.2.2, q.1, q.2.1⟩)
        have f1' : fX9_sill (vl0 96 (60 * s + (p + 2 * k))).toInt32 (vl0 96 (60 * s + (p + 2 * k + 1))).toInt32 sv vi vl = some (r, sv, vi, vl) := f1
        rw [f1', Option.bind_some]
        simp only []
        rw [if_neg (by rw [tle, l0]; rw [tlt, l0] at f2; omega), if_pos (by have := wf_0 hW; omega)]
  | succ d ih =>
    intro k sv vi vl q1 q2 hW n1 z1 hl
    obtain ⟨g1, g2, g3, g4, g5⟩ := hm k (by omega)
    have w := wf_198 hW s h6
    obtain ⟨w1, w2, w3, w4⟩ := w
    obtain ⟨sv1, vi1, vl1, a1, a2, a3, a4, a5, a6, a7, a8, a9⟩ := sill_make (vl := vl) hW g3 n1 g4 g5
    obtain ⟨sv', vi', vl', b1, b2, b3, b4, b5, b6⟩ := ih (k + 1) sv1 vi1 vl1 (by omega) (by omega) a2 a3 (by rw [a8 _ _ (by omega) (by omega)]; exact z1) (fun a i q => (a9 a i (by omega)).trans (hl a i q))
    refine ⟨sv', vi', vl', fun F hF => ?_, b2, b3, fun t t1 t2 => ?_, fun a i y1 y2 => by rw [b5 a i (by omega) y2, a8 a i y1 y2], b6⟩
    · obtain ⟨F, rfl⟩ : ∃ F', F = F' + 1 := ⟨F - 1, by omega⟩
      have es : (nI z - nI p).toInt = (z : Int) - p := by rw [tsub (by rw [tnI (by omega), tnI (by omega)]; omega) (by rw [tnI (by omega), tnI (by omega)]; omega), tnI (by omega), tnI (by omega)]
      have e2 : (2 * nI k + 1 : Int32) = nI (2 * k + 1) := by rw [show (2 : Int32) = nI 2 from rfl, nI_mul, nI_1]
      have x1 : (nI p + 2 * nI k : Int32) = nI (p + 2 * k) := by rw [show (2 : Int32) = nI 2 from rfl, nI_mul, nI_add]
      rw [fX9_sills_57, if_neg (by rw [tle, tnI (by omega), tnI (by omega)]; omega), if_ob w2, z1, if_neg (by rw [tle, es, e2, tnI (by omega)]; omega), if_ob w2, w3, if_pos (by omega), show 51 + 2 * s + 1 + 1 - 1 = 51 + 2 * s + 1 by omega, if_ar w4, x1, nI_1, if_inb (by rw [tnI (by omega)]; omega), if_ob w2, if_pos (by omega), if_ar w4, if_inb (by rw [tnI (by omega)]; omega), if_ob (wf_2 hW), if_pos (by omega), nI_clamp (by omega), nI_clamp (by omega), show 51 + 2 * s + 1 = 52 + 2 * s by omega, hl _ _ (by omega), hl _ _ (by omega), evl _ (by omega), evl _ (by omega)]
      have a1' : fX9_sill (vl0 96 (60 * s + (p + 2 * k))).toInt32 (vl0 96 (60 * s + (p + 2 * k + 1))).toInt32 sv vi vl = some (nI (ns + k), sv1, vi1, vl1) := a1
      rw [a1', Option.bind_some]
      simp only []
      rw [if_pos (by rw [tle, l0, tnI (by omega)]; omega), nI_1]
      exact b1 F (by omega)
    · by_cases c : t = k
      · subst c
        refine ⟨?_, ?_, ?_, fun i => ?_⟩
        · rw [b5 _ _ (by omega) (by omega)]; exact a4
        · rw [b5 _ _ (by omega) (by omega)]; exact a5
        · rw [b5 _ _ (by omega) (by omega)]; exact a6 2
        · rw [b5 _ _ (by omega) (by omega)]; exact a7 i
      · exact b4 t (by omega) t2
theorem i64_add {a b : Nat} (ha : a < 2147483648) (hb : b < 2147483648) : ((nI a).toInt64 + (nI b).toInt64).toInt = (a : Int) + b := by
  rw [Int64.toInt_add, Int32.toInt_toInt64, Int32.toInt_toInt64, tnI ha, tnI hb, Int.bmod_eq_of_le (by omega) (by omega)]
theorem sillsM_loop {ns s p z n m : Nat} {vl : VL} (h6 : s < 6) (hz : z ≤ 60) (hn : n ≤ 5) (hp : p < 2147483648) (hm : ∀ k, k < m → comes vl ns s p z n k) (hm2 : ¬ comes vl ns s p z n m) (hmn : m ≤ n) (h5 : ns + m ≤ 5) : ∀ (d k : Nat) (vm : VI), m - k = d → k ≤ m → vm 63 1 = nI (ns + k) → vm 95 s = nI z → ∃ vm', (∀ F, d < F → fX10_sills_57 vl F (nI s) (nI p) (nI n) (nI k) vm = some (nI m, vm')) ∧ vm' 63 1 = nI (ns + m) ∧ (∀ t, k ≤ t → t < m → vm' 64 (ns + t) = (nums vl s p t).1 ∧ vm' 65 (ns + t) = (nums vl s p t).2 ∧ vm' 67 (ns + t) = 0) ∧ ∀ a i, ¬ (a = 63 ∧ i = 1) → ¬ ((a = 64 ∨ a = 65 ∨ a = 67) ∧ ns + k ≤ i) → vm' a i = vm a i := by
  have bs : 0 ≤ (nI s).toInt ∧ (nI s).toInt < (6 : Nat) := by rw [tnI (by omega)]; omega
  have cs : (nI s).toNatClampNeg = s := nI_clamp (by omega)
  intro d
  induction d with
  | zero =>
    intro k vm q1 q2 n1 z1
    have ek : k = m := by omega
    subst ek
    refine ⟨vm, fun F hF => ?_, n1, fun t a b => absurd a (by omega), fun _ _ _ _ => rfl⟩
    obtain ⟨F, rfl⟩ : ∃ F', F = F' + 1 := ⟨F - 1, by omega⟩
    rw [fX10_sills_57]
    by_cases c1 : n ≤ k
    · rw [if_pos (by rw [tle, tnI (by omega), tnI (by omega)]; omega), show n = k by omega]
    · have e2 : (2 * nI k : Int32) = nI (2 * k) := by rw [show (2 : Int32) = nI 2 from rfl, nI_mul]
      have ea := i64_add (a := p) (b := 2 * k) hp (by omega)
      have eb : ((nI p).toInt64 + (nI (2 * k)).toInt64 + 1).toInt = (p : Int) + (2 * k : Nat) + 1 := by
        rw [Int64.toInt_add, ea, show (1 : Int64).toInt = 1 from rfl, Int.bmod_eq_of_le (by omega) (by omega)]
      have d1 : ¬ lg_cmp ((nI p).toInt64 + (nI (2 * k)).toInt64) 0 < 0 := by
        rw [lg_cmp_lt, Int64.lt_iff_toInt_lt, ea, show (0 : Int64).toInt = 0 from rfl]; omega
      rw [if_neg (by rw [tle, tnI (by omega), tnI (by omega)]; omega), e2, if_neg d1, if_inb bs, cs, z1]
      by_cases c2 : z ≤ p + (2 * k + 1)
      · rw [if_pos (by rw [lg_cmp_ge, Int64.le_iff_toInt_le, eb, Int32.toInt_toInt64, tnI (by omega)]; omega)]
      · rw [if_neg (by rw [lg_cmp_ge, Int64.le_iff_toInt_le, eb, Int32.toInt_toInt64, tnI (by omega)]; omega), n1]
        by_cases c3 : ns + k = 5
        · rw [if_pos (by rw [c3]; rfl)]
        · have e3 : ((nI p).toInt64 + (nI (2 * k)).toInt64).toInt32 = nI (p + 2 * k) := by
            rw [teq, Int64.toInt_toInt32, ea, Int.bmod_eq_of_le (by omega) (by omega), tnI (by omega)]; omega
          have e4 : (60 * nI s + nI (p + 2 * k) : Int32) = nI (60 * s + (p + 2 * k)) := by rw [show (60 : Int32) = nI 60 from rfl, nI_mul, nI_add]
          have e5 : (nI (60 * s + (p + 2 * k)) + 1 : Int32) = nI (60 * s + (p + 2 * k + 1)) := by rw [nI_1]; rfl
          have i1 : fX10_in (vl 96 (60 * s + (p + 2 * k))).toInt32 0 9 = some (decide (0 ≤ (nums vl s p k).1.toInt ∧ (nums vl s p k).1.toInt ≤ 9)) := in_eq _ _ _
          have i2 : fX10_in (vl 96 (60 * s + (p + 2 * k + 1))).toInt32 0 9 = some (decide (0 ≤ (nums vl s p k).2.toInt ∧ (nums vl s p k).2.toInt ≤ 9)) := in_eq _ _ _
          rw [if_neg (by rw [teq, l5, tnI (by omega)]; omega), e3, e4, e5, if_inb (by rw [tnI (by omega)]; omega), nI_clamp (by omega), nI_clamp (by omega), i1, Option.bind_some, i2, Option.bind_some]
          by_cases y1 : 0 ≤ (nums vl s p k).1.toInt ∧ (nums vl s p k).1.toInt ≤ 9
          · rw [if_pos (by rw [decide_eq_true_eq]; exact y1), if_inb (by rw [tnI (by omega)]; omega), if_neg (by rw [decide_eq_true_eq]; exact fun y2 => hm2 ⟨by omega, by omega, by omega, y1, y2⟩)]
          · rw [if_neg (by rw [decide_eq_true_eq]; exact y1)]
  | succ d ih =>
    intro k vm q1 q2 n1 z1
    obtain ⟨g1, g2, g3, g4, g5⟩ := hm k (by omega)
    obtain ⟨vm1, a1, a2, a3, a4, a5, a6⟩ := add_eq (vm := vm) (x1 := (nums vl s p k).1) (x2 := (nums vl s p k).2) g3 n1
    obtain ⟨vm', b1, b2, b3, b4⟩ := ih (k + 1) vm1 (by omega) (by omega) a2 (by rw [a6 95 s (by omega) (by omega)]; exact z1)
    refine ⟨vm', fun F hF => ?_, b2, fun t t1 t2 => ?_, fun a i y1 y2 => by rw [b4 a i y1 (by omega), a6 a i y1 (by omega)]⟩
    · obtain ⟨F, rfl⟩ : ∃ F', F = F' + 1 := ⟨F - 1, by omega⟩
      have e2 : (2 * nI k : Int32) = nI (2 * k) := by rw [show (2 : Int32) = nI 2 from rfl, nI_mul]
      have ea := i64_add (a := p) (b := 2 * k) hp (by omega)
      have eb : ((nI p).toInt64 + (nI (2 * k)).toInt64 + 1).toInt = (p : Int) + (2 * k : Nat) + 1 := by
        rw [Int64.toInt_add, ea, show (1 : Int64).toInt = 1 from rfl, Int.bmod_eq_of_le (by omega) (by omega)]
      have d1 : ¬ lg_cmp ((nI p).toInt64 + (nI (2 * k)).toInt64) 0 < 0 := by
        rw [lg_cmp_lt, Int64.lt_iff_toInt_lt, ea, show (0 : Int64).toInt = 0 from rfl]; omega
      have e3 : ((nI p).toInt64 + (nI (2 * k)).toInt64).toInt32 = nI (p + 2 * k) := by
        rw [teq, Int64.toInt_toInt32, ea, Int.bmod_eq_of_le (by omega) (by omega), tnI (by omega)]; omega
      have e4 : (60 * nI s + nI (p + 2 * k) : Int32) = nI (60 * s + (p + 2 * k)) := by rw [show (60 : Int32) = nI 60 from rfl, nI_mul, nI_add]
      have e5 : (nI (60 * s + (p + 2 * k)) + 1 : Int32) = nI (60 * s + (p + 2 * k + 1)) := by rw [nI_1]; rfl
      have i1 : fX10_in (vl 96 (60 * s + (p + 2 * k))).toInt32 0 9 = some (decide (0 ≤ (nums vl s p k).1.toInt ∧ (nums vl s p k).1.toInt ≤ 9)) := in_eq _ _ _
      have i2 : fX10_in (vl 96 (60 * s + (p + 2 * k + 1))).toInt32 0 9 = some (decide (0 ≤ (nums vl s p k).2.toInt ∧ (nums vl s p k).2.toInt ≤ 9)) := in_eq _ _ _
      have bb1 : 0 ≤ (nI (60 * s + (p + 2 * k))).toInt ∧ (nI (60 * s + (p + 2 * k))).toInt < (360 : Nat) := by rw [tnI (by omega)]; omega
      have bb2 : 0 ≤ (nI (60 * s + (p + 2 * k + 1))).toInt ∧ (nI (60 * s + (p + 2 * k + 1))).toInt < (360 : Nat) := by rw [tnI (by omega)]; omega
      have a1' : fX10_addSill (vl 96 (60 * s + (p + 2 * k))).toInt32 (vl 96 (60 * s + (p + 2 * k + 1))).toInt32 vm = some (nI (ns + k), vm1) := a1
      rw [fX10_sills_57, if_neg (by rw [tle, tnI (by omega), tnI (by omega)]; omega), e2, if_neg d1, if_inb bs, cs, z1, if_neg (by rw [lg_cmp_ge, Int64.le_iff_toInt_le, eb, Int32.toInt_toInt64, tnI (by omega)]; omega), n1, if_neg (by rw [teq, l5, tnI (by omega)]; omega), e3, e4, e5, if_inb bb1, nI_clamp (by omega), nI_clamp (by omega), i1, Option.bind_some, i2, Option.bind_some, if_pos (by rw [decide_eq_true_eq]; exact g4), if_inb bb2, if_pos (by rw [decide_eq_true_eq]; exact g5), if_inb bb1, if_inb bb2, a1', Option.bind_some, nI_1]
      exact b1 F (by omega)
    · by_cases c : t = k
      · subst c
        rw [b4 64 _ (by omega) (by omega), b4 65 _ (by omega) (by omega), b4 67 _ (by omega) (by omega)]
        exact ⟨a3, a4, a5⟩
      · exact b3 t (by omega) t2
