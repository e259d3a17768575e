/-! ACTS -/
def stp (oc ic ot : Nat) (vi : VI) (t : Int32) : VI := j_up (if 24 ≤ vi oc ic then vi else j_up vi ot (vi oc ic).toNatClampNeg t) oc ic (vi oc ic + 1)
def rk (k a : Nat) : Nat := [0, 0, 0, 0, 1, 0, 0, 0, 0, 2, 0, 0, 0, 3, 3, 0, 1, 0, 0, 4, 0, 3, 5, 5, 6, 0, 0, 0, 7, 7, 0, 0].getD (4 * k + a) 0
def rj (k a : Nat) : Int32 := j_own (4 * rk k a + a)
theorem bindEta {α β : Type} (o : Option (α × β)) : (o.bind fun r => some (r.1, r.2)) = o := by cases o <;> rfl
theorem run6 {k a : Nat} (hk : k < 8) (ha : a < 4) (rec : Nat → Int32 → Int32 → Int32 → Int32 → Int32 → VI → Option (Int32 × VI)) (x1 x4 x5 : Int32) (vi : VI) : fX0_run_6 rec FU x1 (nI a) x4 x5 (nI k) 0 vi = fX0_run_45 rec x1 (nI a) x4 x5 (nI (rk k a)) vi := by
  have hk8 : k = 0 ∨ k = 1 ∨ k = 2 ∨ k = 3 ∨ k = 4 ∨ k = 5 ∨ k = 6 ∨ k = 7 := by omega
  have ha4 : a = 0 ∨ a = 1 ∨ a = 2 ∨ a = 3 := by omega
  rcases hk8 with rfl | rfl | rfl | rfl | rfl | rfl | rfl | rfl <;> rcases ha4 with rfl | rfl | rfl | rfl <;> rfl
theorem run_f : ∀ k, k < 8 → ∀ a, a < 4 → (¬ nI (rk k a) < 0) ∧ inb (nI (rk k a) * 4 + nI a) 32 = true ∧ j_own (nI (rk k a) * 4 + nI a).toNatClampNeg = rj k a ∧ inb (nI (rk k a)) 8 = true ∧ (nI (rk k a)).toNatClampNeg = rk k a := by
  intro k hk a ha
  have hk8 : k = 0 ∨ k = 1 ∨ k = 2 ∨ k = 3 ∨ k = 4 ∨ k = 5 ∨ k = 6 ∨ k = 7 := by omega
  have ha4 : a = 0 ∨ a = 1 ∨ a = 2 ∨ a = 3 := by omega
  rcases hk8 with rfl | rfl | rfl | rfl | rfl | rfl | rfl | rfl <;> rcases ha4 with rfl | rfl | rfl | rfl <;> decide
theorem runR {D k a d m : Nat} {b x : Int32} {vi : VI} (hk : k < 8) (ha : a < 4) (hd : d < 40) (hm : vi 47 3 = nI m) (hm2 : m ≤ 1000) : fX0g (D + 1) 0 b (nI k) (nI a) x (nI d) vi = fX0g D 1 (rj k a) b (j_abv (rk k a)) x (nI (d + 1)) (stp 47 3 49 vi (rj k a)) := by
  obtain ⟨f1, f2, f3, f4, f5⟩ := run_f k hk a ha
  rw [fX0g, if_pos rfl]
  unfold fX0_run
  rw [run6 hk ha]
  unfold fX0_run_45 fX0_run_91
  rw [if_neg f1, if_pos (by rw [tlt, tnI (by omega), l40]; omega), if_pos f2, f3, f5, nI_1]
  simp only [if_pos f4, bindEta]
  unfold stp
  by_cases c : 24 ≤ vi 47 3
  · simp only [if_pos c]
  · have c2 : inb (vi 47 3) 24 = true := inb_t (by rw [tle, l24] at c; rw [hm, tnI (by omega)] at c ⊢; omega)
    simp only [if_neg c, if_pos c2]
    rw [up_o (show (47 : Nat) ≠ 49 by decide)]
theorem stp_n {oc ic ot m : Nat} {vi : VI} {t : Int32} (h : vi oc ic = nI m) : stp oc ic ot vi t oc ic = nI (m + 1) := by
  unfold stp
  rw [up_s, h, nI_1]
theorem stp_o {oc ic ot o i : Nat} {vi : VI} {t : Int32} (h1 : ¬ (o = oc ∧ i = ic)) (h2 : o ≠ ot) : stp oc ic ot vi t o i = vi o i := by
  unfold stp
  rw [up_at, if_neg h1]
  split
  · rfl
  · rw [up_o h2]
theorem stp_t {oc ic ot m i : Nat} {vi : VI} {t : Int32} (h : vi oc ic = nI m) (hm : m ≤ 1000) (hne : ot ≠ oc) (hi : i < 24) : stp oc ic ot vi t ot i = if i = m then t else vi ot i := by
  unfold stp
  rw [up_o hne, h]
  by_cases c : (24 : Int32) ≤ nI m
  · rw [if_pos c, if_neg]
    rw [tle, l24, tnI (by omega)] at c
    omega
  · rw [if_neg c, nI_clamp (by omega), up_at]
    by_cases c2 : i = m
    · rw [if_pos ⟨rfl, c2⟩, if_pos c2]
    · rw [if_neg (fun q => c2 q.2), if_neg c2]
/-- what a row of numbers kept leaves -/
theorem fold_t {oc ic ot : Nat} (hne : ot ≠ oc) : ∀ (l : List Int32) (m : Nat) (vi : VI), vi oc ic = nI m → m + l.length ≤ 1000 → (l.foldl (stp oc ic ot) vi) oc ic = nI (m + l.length) ∧ (∀ i, i < 24 → (l.foldl (stp oc ic ot) vi) ot i = if m ≤ i ∧ i < m + l.length then l.getD (i - m) 0 else vi ot i) ∧ ∀ o i, ¬ (o = oc ∧ i = ic) → o ≠ ot → (l.foldl (stp oc ic ot) vi) o i = vi o i := by
  intro l
  induction l with
  | nil =>
    intro m vi h h2
    refine ⟨h, fun i _ => ?_, fun o i _ _ => rfl⟩
    rw [if_neg (by simp only [List.length_nil]; omega)]; rfl
  | cons t l ih =>
    intro m vi h h2
    simp only [List.length_cons] at h2
    obtain ⟨e1, e2, e3⟩ := ih (m + 1) (stp oc ic ot vi t) (stp_n h) (by omega)
    refine ⟨?_, fun i hi => ?_, fun o i g1 g2 => ?_⟩
    · simp only [List.foldl_cons, List.length_cons]
      rw [e1]; congr 1; omega
    · simp only [List.foldl_cons, List.length_cons]
      rw [e2 i hi, stp_t h (by omega) hne hi]
      by_cases c : m + 1 ≤ i ∧ i < m + 1 + l.length
      · rw [if_pos c, if_pos (by omega), show i - m = (i - (m + 1)) + 1 by omega]; rfl
      · rw [if_neg c]
        by_cases c2 : i = m
        · rw [if_pos c2, if_pos (by omega), show i - m = 0 by omega]; rfl
        · rw [if_neg c2, if_neg (by omega)]
    · simp only [List.foldl_cons]
      rw [e3 o i g1 g2, stp_o g1 g2]
def lV (k : Nat) (x n : Int32) : Int32 := match k with
  | 1 => x + n + 3
  | 4 => x + n + 3
  | 6 => (x + n) * 2
  | 7 => (x + n) * 2 - 1
  | _ => x + n
def lL (k : Nat) : List Int32 := match k with
  | 1 => [20, 1]
  | 4 => [20, 1]
  | 6 => [70, 1]
  | 7 => [81, 70, 1]
  | _ => [1]
def fV (k : Nat) (x n : Int32) : Int32 := match k with
  | 3 => (x ^^^ n) * 3
  | 5 => (x ^^^ n) * 3 - lV 5 2 n
  | _ => x ^^^ n
def fL (k : Nat) : List Int32 := match k with
  | 3 => [40, 11]
  | 5 => [60, 40, 11] ++ lL 5
  | _ => [11]
def rV (k : Nat) (x n : Int32) : Int32 := match k with
  | 2 => -(lV 2 x n * 2)
  | 3 => -(lV 3 (x + 1) n * 2)
  | 5 => -(lV 5 (x + 1) n * 2)
  | 7 => lV 7 x n * 2 + fV 7 2 n
  | k => lV k x n * 2
def rL (k : Nat) : List Int32 := match k with
  | 2 => [30, 10] ++ lL 2
  | 3 => [41, 30, 10] ++ lL 3
  | 5 => [41, 30, 10] ++ lL 5
  | 7 => [80, 10] ++ lL 7 ++ fL 7
  | k => 10 :: lL k
def tV (k : Nat) (x n : Int32) : Int32 := match k with
  | 4 => (rV 4 x n - fV 4 1 n) ^^^ 5
  | 5 => (rV 5 x n - fV 5 1 n) + 1
  | k => rV k x n - fV k 1 n
def tL (k : Nat) : List Int32 := match k with
  | 4 => [50, 2] ++ rL 4 ++ fL 4
  | 5 => [61, 2] ++ rL 5 ++ fL 5
  | k => 2 :: rL k ++ fL k
