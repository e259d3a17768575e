/-! Days: first -/
theorem least_ex {P : Nat → Prop} : ∀ n : Nat, (∃ c, c < n ∧ P c) → ∃ C, C < n ∧ P C ∧ ∀ c, c < C → ¬ P c
  | 0, ⟨c, h, _⟩ => absurd h (Nat.not_lt_zero c)
  | n + 1, ⟨c, h, p⟩ => by
    by_cases q : ∃ c, c < n ∧ P c
    · obtain ⟨C, a, b, d⟩ := least_ex n q
      exact ⟨C, by omega, b, d⟩
    · have e : c = n := by
        by_cases k : c < n
        · exact absurd ⟨c, k, p⟩ q
        · omega
      subst e
      exact ⟨c, by omega, p, fun x hx hp => q ⟨x, hx, hp⟩⟩
theorem sm_0 {f : Nat → Nat} : ∀ {n : Nat}, sm f n = 0 → ∀ i, i < n → f i = 0
  | 0, _, i, h => absurd h (Nat.not_lt_zero i)
  | n + 1, h, i, hi => by
    have h' : sm f n + f n = 0 := h
    by_cases e : i = n
    · subst e; omega
    · exact sm_0 (f := f) (n := n) (by omega) i (by omega)
def vw (wh th : Nat → Nat) (A : Nat → Nat → Nat) (n l m t c : Nat) : Nat := (nx wh th A n c m t).elim 0 fun s => wy wh th A e0 n n l s.1 s.2
theorem wy_vw {wh th : Nat → Nat} {A : Nat → Nat → Nat} {n l m t : Nat} : wy wh th A e0 n n (l + 1) m t = sm (vw wh th A n l m t) 60 := by
  show sm (fun c => if e0 c = true then 0 else (nx wh th A n c m t).elim 0 fun s => wy wh th A e0 n n l s.1 s.2) 60 = _
  exact sm_congr fun c _ => if_neg (by unfold e0; exact Bool.noConfusion)
theorem vw_lt {wh th : Nat → Nat} {A : Nat → Nat → Nat} {n l m t c : Nat} (h : l ≤ 9) : vw wh th A n l m t c < 9223372036854775808 := by
  unfold vw
  cases nx wh th A n c m t with
  | none => show 0 < _; omega
  | some s => exact wy_lt h
theorem from_nx {n D l m t c : Nat} {wh th : Nat → Nat} {A : Nat → Nat → Nat} {vl : VL} (hg : sm th n ≤ 81) (hD : D ≤ 9) (hl : l ≤ D) (ht : ∀ l m t, l ≤ D → Vd th n m t → vl 17 (l * 82 + Pl th m t) = nL (wy wh th A e0 n n l m t)) (hv : Vd th n m t) : fX2_waysFrom ((nx wh th A n c m t).elim (-2) fun s => nI (Pl th s.1 s.2)) (nI l) vl = some (nL (vw wh th A n l m t c)) := by
  unfold vw
  cases q : nx wh th A n c m t with
  | none =>
    show fX2_waysFrom (-2) (nI l) vl = some 0
    unfold fX2_waysFrom fX2_waysFrom_24
    rw [if_pos (by decide)]
    exact if_pos rfl
  | some s =>
    obtain ⟨a, b⟩ := nx_valid hv q
    have := pl_g a
    exact (from_eq (by omega) (by omega) vl).trans (congrArg some (ht l s.1 s.2 hl a))
theorem look_at {ns j n D l m t C : Nat} {wh th : Nat → Nat} {A : Nat → Nat → Nat} {vl : VL} (hg : sm th n ≤ 81) (hD : D ≤ 9) (hl : l ≤ D) (ht : ∀ l m t, l ≤ D → Vd th n m t → vl 17 (l * 82 + Pl th m t) = nL (wy wh th A e0 n n l m t)) (hv : Vd th n m t) (hC : C < 60) (hp : 0 < vw wh th A n l m t C) (hz : ∀ c, c < C → ¬ 0 < vw wh th A n l m t c) : ∀ (d x : Nat) (vi : VI), C - x = d → x ≤ C → DA ns j n wh th A vi vl → SB wh th A e0 n (n + 1) vi → ∃ vi', (∀ F, d < F → fX2_firstLooking_3 (98 + 5 * j) vl F (nI (Pl th m t)) (nI l) (nI x) vi = some (nI C, vi')) ∧ DA ns j n wh th A vi' vl ∧ SB wh th A e0 n (n + 1) vi' := by
  intro d
  induction d with
  | zero =>
    intro x vi hd hx h s
    obtain rfl : x = C := by omega
    obtain ⟨vi1, a1, a2, a3⟩ := behind (c := x) h s hg hv hC
    refine ⟨vi1, fun F hF => ?_, a2, a3⟩
    obtain ⟨F, rfl⟩ : ∃ F', F = F' + 1 := ⟨F - 1, by omega⟩
    refine (if_neg (by rw [tle, tnI (by omega), l60]; omega)).trans ?_
    rw [a1, Option.bind_some, from_nx hg hD hl ht hv, Option.bind_some, if_neg fun q => by have := (lz_le (vw_lt (by omega))).1 q; omega]
  | succ d ih =>
    intro x vi hd hx h s
    obtain ⟨vi1, a1, a2, a3⟩ := behind (c := x) h s hg hv (by omega)
    obtain ⟨vi', g1, g2, g3⟩ := ih (x + 1) vi1 (by omega) (by omega) a2 a3
    refine ⟨vi', fun F hF => ?_, g2, g3⟩
    obtain ⟨F, rfl⟩ : ∃ F', F = F' + 1 := ⟨F - 1, by omega⟩
    have := hz x (by omega)
    refine (if_neg (by rw [tle, tnI (by omega), l60]; omega)).trans ?_
    rw [a1, Option.bind_some, from_nx hg hD hl ht hv, Option.bind_some, if_pos ((lz_le (vw_lt (by omega))).2 (by omega)), nI_1]
    exact g1 F (by omega)
theorem look_none {x1 : Nat} {x2 x3 : Int32} {vl : VL} {P : VI → Prop} (h : ∀ vi c, P vi → c < 60 → ∃ r vi', fX2_placeBehind x1 x2 (nI c) vi = some (r, vi') ∧ P vi' ∧ fX2_waysFrom r x3 vl = some 0) : ∀ (d x : Nat) (vi : VI), 60 - x = d → x ≤ 60 → P vi → ∃ vi', (∀ F, d < F → fX2_firstLooking_3 x1 vl F x2 x3 (nI x) vi = some (-2, vi')) ∧ P vi' := by
  intro d
  induction d with
  | zero =>
    intro x vi hd hx p
    obtain rfl : x = 60 := by omega
    refine ⟨vi, fun F hF => ?_, p⟩
    obtain ⟨F, rfl⟩ : ∃ F', F = F' + 1 := ⟨F - 1, by omega⟩
    exact if_pos (by decide)
  | succ d ih =>
    intro x vi hd hx p
    obtain ⟨r, vi1, a1, a2, a3⟩ := h vi x p (by omega)
    obtain ⟨vi', g1, g2⟩ := ih (x + 1) vi1 (by omega) (by omega) a2
    have z0 : lg_cmp 0 0 ≤ 0 := (lz_le (n := 0) (by omega)).2 rfl
    refine ⟨vi', fun F hF => ?_, g2⟩
    obtain ⟨F, rfl⟩ : ∃ F', F = F' + 1 := ⟨F - 1, by omega⟩
    refine (if_neg (by rw [tle, tnI (by omega), l60]; omega)).trans ?_
    rw [a1, Option.bind_some, a3, Option.bind_some, if_pos z0, nI_1]
    exact g1 F (by omega)
theorem m59 {n D k i l m t C : Nat} {wh th : Nat → Nat} {A : Nat → Nat → Nat} {vm : VI} {vl : VL} {s : Nat × Nat} {k50 : Int32 → Int32 → Int32 → Int32 → Int32 → VI → VL → Option (Int32 × VI × VL)} (h : MD n wh th A (-1) vm) (hw : MW wh th A e0 n (((D + 1) * 10 + 0) * 100 + 0) vl) (hD : D ≤ 9) (hl : i + (l + 1) = D) (hk : k ≤ 9) (hi : i ≤ k) (hv : Vd th n m t) (hm : m ≤ i) (hC : C < 60) (hp : 0 < vw wh th A n l m t C) (hz : ∀ c, c < C → ¬ 0 < vw wh th A n l m t c) (hs : nx wh th A n C m t = some s) : ∀ (d x F : Nat), C - x = d → x ≤ C → d < F → fX10_first_59 k50 F (nI D) (nI k) (nI m) (nI t) (nI i) (nI x) vm vl = if i = k then some (nI C, vm, vl) else k50 (nI D) (nI k) (nI s.1) (nI s.2) (nI (i + 1)) vm vl := by
  have hmn := hv.1
  have o : ok' n th m t := ⟨by omega, hv.2.1, fun q => (hv.2.2 q).2⟩
  have ed : (nI D - nI i : Int32) = nI (l + 1) := by rw [nI_sub (by omega), show D - i = l + 1 by omega]
  have val : ∀ c, c < 60 → fX10_waysBy (nI (l + 1)) (nI m) (nI t) (nI c) vm vl = some (nL (vw wh th A n l m t c)) := by
    intro c hc
    rw [by_val (ex := e0) h (by omega) o hc hw (by omega), nx_cap (by omega)]
    unfold vw
    cases q : nx wh th A n c m t with
    | none => rfl
    | some u =>
      show some (nL (wy wh th A e0 n (min n 9) l u.1 u.2)) = some (nL (wy wh th A e0 n n l u.1 u.2))
      rw [wy_cap l u.1 u.2 (by have := nx_m q; omega)]
  intro d
  induction d with
  | zero =>
    intro x F hd hx hF
    obtain rfl : x = C := by omega
    obtain ⟨F, rfl⟩ : ∃ F', F = F' + 1 := ⟨F - 1, by omega⟩
    have hA := h.2.2.2.1 m x (by omega) hC
    have u0 : (60 * nI m + nI x : Int32) = nI (60 * m + x) := by rw [show (60 : Int32) = nI 60 from rfl, nI_mul, nI_add]
    unfold fX10_first_59
    rw [ed, val x hC, Option.bind_some, if_neg fun q => by have := (lz_eq (vw_lt (by omega))).1 q; omega]
    by_cases e : i = k
    · rw [if_pos (by rw [e]), if_pos e]
    · rw [if_neg (by rw [nI_inj (by omega) (by omega)]; exact e), if_neg e, u0, if_inb (by rw [tnI (by omega)]; omega), nI_clamp (by omega), hA.1]
      unfold nx at hs
      by_cases z : A m x = 0
      · rw [if_pos z] at hs; cases hs
        rw [if_pos (by rw [z]; rfl)]
        unfold fX10_first_155
        rw [nI_1]
      · rw [if_neg z] at hs
        rw [if_neg (by rw [← t00, nI_inj (by omega) (by omega)]; exact z)]
        have fin : ¬ (0 < m ∧ wh (m - 1) = x / 10) → fX10_first_148 k50 (nI D) (nI k) (nI m) (nI i) (nI (A m x)) vm vl = k50 (nI D) (nI k) (nI s.1) (nI s.2) (nI (i + 1)) vm vl := fun b => by
          rw [if_neg b] at hs
          by_cases d : (m = 0 ∨ t = th (m - 1)) ∧ m < n ∧ wh m = x / 10 ∧ A m x ≤ th m
          · rw [if_pos d] at hs; cases hs
            unfold fX10_first_148 fX10_first_155
            rw [nI_1, nI_1]
          · rw [if_neg d] at hs; cases hs
        by_cases m0 : m = 0
        · rw [if_pos ((n_le0 (by omega)).2 m0)]
          exact fin (by omega)
        · obtain ⟨q, rfl⟩ : ∃ q, m = q + 1 := ⟨m - 1, by omega⟩
          have em : (nI (q + 1) - 1 : Int32) = nI q := nI_sub (a := q + 1) (b := 1) (by omega)
          have w := h.2.2.1 q (by omega)
          rw [if_neg fun r => m0 ((n_le0 (by omega)).1 r), em, if_inb (by rw [tnI (by omega)]; omega), nI_clamp (by omega), w.1, c_div hC]
          by_cases b : wh q = x / 10
          · have b' : 0 < q + 1 ∧ wh (q + 1 - 1) = x / 10 := ⟨by omega, b⟩
            rw [if_pos b'] at hs
            rw [if_pos (by rw [b])]
            by_cases d : t + A (q + 1) x ≤ th (q + 1 - 1)
            · rw [if_pos d] at hs; cases hs
              unfold fX10_first_155
              rw [nI_add, nI_1]
            · rw [if_neg d] at hs; cases hs
          · rw [if_neg (by rw [nI_inj (by omega) (by omega)]; exact b)]
            exact fin fun r => b r.2
  | succ d ih =>
    intro x F hd hx hF
    obtain ⟨F, rfl⟩ : ∃ F', F = F' + 1 := ⟨F - 1, by omega⟩
    have := hz x (by omega)
    have nxt := ih (x + 1) F (by omega) (by omega) (by omega)
    have u : fX10_first_59 k50 (F + 1) (nI D) (nI k) (nI m) (nI t) (nI i) (nI x) vm vl = fX10_first_59 k50 F (nI D) (nI k) (nI m) (nI t) (nI i) (nI (x + 1)) vm vl := by
      conv => lhs; unfold fX10_first_59
      rw [ed, val x (by omega), Option.bind_some, if_pos ((lz_eq (vw_lt (by omega))).2 (by omega)), nI_1]
    exact u.trans nxt
theorem first_good {ns j n D k : Nat} {wh th : Nat → Nat} {A : Nat → Nat → Nat} {vl : VL} (hg : sm th n ≤ 81) (hD : D ≤ 9) (hk : k < D) (ht : ∀ l m t, l ≤ D → Vd th n m t → vl 17 (l * 82 + Pl th m t) = nL (wy wh th A e0 n n l m t)) : ∀ (d i m t : Nat) (vi : VI) (x6 : Int32), k - i = d → i ≤ k → Vd th n m t → m ≤ i → 0 < wy wh th A e0 n n (D - i) m t → DA ns j n wh th A vi vl → SB wh th A e0 n (n + 1) vi → ∃ C vi', (∀ F, d + 1 < F → fX9_first_56 ns F (nI D) (nI k) (98 + 5 * j) (nI (Pl th m t)) x6 (nI i) vi vl = some (nI C, vi', vl)) ∧ DA ns j n wh th A vi' vl ∧ ∀ vm vlm, MD n wh th A (-1) vm → MW wh th A e0 n (((D + 1) * 10 + 0) * 100 + 0) vlm → ∀ F, d + 1 < F → fX10_first_50 F (nI D) (nI k) (nI m) (nI t) (nI i) vm vlm = some (nI C, vm, vlm) := by
  intro d
  induction d with
  | zero =>
    intro i m t vi x6 hd hi hv hm hw h s
    obtain rfl : i = k := by omega
    obtain ⟨l, el⟩ : ∃ l, D - i = l + 1 := ⟨D - i - 1, by omega⟩
    rw [el, wy_vw] at hw
    obtain ⟨C, hC, hp, hz⟩ := least_ex 60 (sm_pos hw)
    have hpl := pl_g hv
    obtain ⟨vi1, a1, a2, a3⟩ := look_at hg hD (show l ≤ D by omega) ht hv hC hp hz C 0 vi (by omega) (by omega) h s
    obtain ⟨vi2, b1, b2, b3⟩ := behind (c := C) a2 a3 hg hv hC
    obtain ⟨st, hs⟩ : ∃ st, nx wh th A n C m t = some st := by
      cases q : nx wh th A n C m t with
      | none => unfold vw at hp; rw [q] at hp; exact absurd hp (by show ¬ 0 < 0; omega)
      | some st => exact ⟨st, rfl⟩
    have ed : (nI D - 1 - nI i : Int32) = nI l := by rw [← t11, nI_sub (by omega), nI_sub (by omega), show D - 1 - i = l by omega]
    refine ⟨C, vi2, fun F hF => ?_, b2, fun vm vlm hMD hMW F hF => ?_⟩
    · obtain ⟨F, rfl⟩ : ∃ F', F = F' + 2 := ⟨F - 2, by omega⟩
      refine (if_neg (by rw [tlt]; omega)).trans ((if_neg (by rw [tlt, tnI (by omega), l0]; omega)).trans ?_)
      have f : fX2_firstLooking (98 + 5 * j) (nI (Pl th m t)) (nI l) vi vl = some (nI C, vi1) := a1 FU (by rw [FU_eq]; omega)
      rw [ed, f, Option.bind_some, if_pos (by rw [tle, tnI (by omega), l0]; omega), b1, Option.bind_some]
      unfold fX9_first_109
      exact if_pos (by rw [nI_1, tlt, tnI (by omega), tnI (by omega)]; omega)
    · obtain ⟨F, rfl⟩ : ∃ F', F = F' + 1 := ⟨F - 1, by omega⟩
      refine (if_neg (by rw [tlt]; omega)).trans ?_
      have r := m59 (s := st) (k50 := fX10_first_50 F) (k := i) (i := i) hMD hMW hD (show i + (l + 1) = D by omega) (by omega) (by omega) hv hm hC hp hz hs C 0 FU (by omega) (by omega) (by rw [FU_eq]; omega)
      rw [if_pos rfl] at r
      exact r
  | succ d ih =>
    intro i m t vi x6 hd hi hv hm hw h s
    obtain ⟨l, el⟩ : ∃ l, D - i = l + 1 := ⟨D - i - 1, by omega⟩
    rw [el, wy_vw] at hw
    obtain ⟨C, hC, hp, hz⟩ := least_ex 60 (sm_pos hw)
    have hpl := pl_g hv
    obtain ⟨vi1, a1, a2, a3⟩ := look_at hg hD (show l ≤ D by omega) ht hv hC hp hz C 0 vi (by omega) (by omega) h s
    obtain ⟨vi2, b1, b2, b3⟩ := behind (c := C) a2 a3 hg hv hC
    obtain ⟨st, hs⟩ : ∃ st, nx wh th A n C m t = some st := by
      cases q : nx wh th A n C m t with
      | none => unfold vw at hp; rw [q] at hp; exact absurd hp (by show ¬ 0 < 0; omega)
      | some st => exact ⟨st, rfl⟩
    have ed : (nI D - 1 - nI i : Int32) = nI l := by rw [← t11, nI_sub (by omega), nI_sub (by omega), show D - 1 - i = l by omega]
    have hp' : 0 < wy wh th A e0 n n (D - (i + 1)) st.1 st.2 := by
      unfold vw at hp
      rw [hs] at hp
      rw [show D - (i + 1) = l by omega]
      exact hp
    obtain ⟨w1, w2⟩ := nx_valid hv hs
    have w3 := nx_m hs
    obtain ⟨R, vi', g1, g2, g3⟩ := ih (i + 1) st.1 st.2 vi2 (nI C) (by omega) (by omega) w1 (by omega) hp' b2 b3
    refine ⟨R, vi', fun F hF => ?_, g2, fun vm vlm hMD hMW F hF => ?_⟩
    · obtain ⟨F, rfl⟩ : ∃ F', F = F' + 1 := ⟨F - 1, by omega⟩
      refine (if_neg (by rw [tlt, tnI (by omega), tnI (by omega)]; omega)).trans ((if_neg (by rw [tlt, tnI (by omega), l0]; omega)).trans ?_)
      have f : fX2_firstLooking (98 + 5 * j) (nI (Pl th m t)) (nI l) vi vl = some (nI C, vi1) := a1 FU (by rw [FU_eq]; omega)
      rw [ed, f, Option.bind_some, if_pos (by rw [tle, tnI (by omega), l0]; omega), b1, Option.bind_some, hs]
      unfold fX9_first_109
      rw [nI_1]
      exact g1 F (by omega)
    · obtain ⟨F, rfl⟩ : ∃ F', F = F' + 1 := ⟨F - 1, by omega⟩
      refine (if_neg (by rw [tlt, tnI (by omega), tnI (by omega)]; omega)).trans ?_
      have r := m59 (s := st) (k50 := fX10_first_50 F) (k := k) (i := i) hMD hMW hD (show i + (l + 1) = D by omega) (by omega) (by omega) hv hm hC hp hz hs C 0 FU (by omega) (by omega) (by rw [FU_eq]; omega)
      rw [if_neg (by omega)] at r
      exact r.trans (g3 vm vlm hMD hMW F (by omega))
theorem first_zero {ns j n D k : Nat} {wh th : Nat → Nat} {A : Nat → Nat → Nat} {vi : VI} {vl : VL} (hD : D ≤ 9) (hk : k < D) (h : WO ns j n wh th A e0 D vi vl) (hz : wy wh th A e0 n n D 0 0 = 0) : ∃ vi', (∀ F, 1 < F → fX9_first_56 ns F (nI D) (nI k) (98 + 5 * j) 0 (-2) 0 vi vl = some (-2, vi', vl)) ∧ DA ns j n wh th A vi' vl := by
  obtain ⟨l, rfl⟩ : ∃ l, D = l + 1 := ⟨D - 1, by omega⟩
  rw [wy_vw] at hz
  have z := sm_0 hz
  have none' : ∃ vi', fX2_firstLooking (98 + 5 * j) 0 (nI l) vi vl = some (-2, vi') ∧ DA ns j n wh th A vi' vl := by
    rcases h.2.2 with ⟨hg, s, ht⟩ | ⟨hg, s⟩
    · obtain ⟨vi', a, b⟩ := look_none (x1 := 98 + 5 * j) (x2 := 0) (x3 := nI l) (vl := vl) (P := fun v => DA ns j n wh th A v vl ∧ SB wh th A e0 n (n + 1) v) (fun v c p hc => by
        obtain ⟨v1, a1, a2, a3⟩ := behind (c := c) p.1 p.2 hg vd_0 hc
        refine ⟨_, v1, a1, ⟨a2, a3⟩, ?_⟩
        rw [from_nx hg hD (show l ≤ l + 1 by omega) ht vd_0, z c hc]; rfl) 60 0 vi (by omega) (by omega) ⟨h.1, s⟩
      exact ⟨vi', a FU (by rw [FU_eq]; omega), b.1⟩
    · obtain ⟨vi', a, b⟩ := look_none (x1 := 98 + 5 * j) (x2 := 0) (x3 := nI l) (vl := vl) (P := fun v => DA ns j n wh th A v vl ∧ v 16 5 = nI n) (fun v c p hc => by
        obtain ⟨r, v1, a1, a2, a3⟩ := behind_any p.1 p.2 0 hc
        exact ⟨r, v1, a1, ⟨a2, a3⟩, from_bare0 _ _ s r⟩) 60 0 vi (by omega) (by omega) ⟨h.1, h.2.1⟩
      exact ⟨vi', a FU (by rw [FU_eq]; omega), b.1⟩
  obtain ⟨vi', a, b⟩ := none'
  refine ⟨vi', fun F hF => ?_, b⟩
  obtain ⟨F, rfl⟩ : ∃ F', F = F' + 2 := ⟨F - 2, by omega⟩
  have ed : (nI (l + 1) - 1 - 0 : Int32) = nI l := by rw [← t00, ← t11, nI_sub (by omega), nI_sub (by omega)]; rfl
  refine (if_neg (by rw [tlt, tnI (by omega), l0]; omega)).trans ((if_neg (by decide)).trans ?_)
  rw [ed, a, Option.bind_some, if_neg (show ¬ (0 : Int32) ≤ -2 by decide)]
  unfold fX9_first_109
  show (if nI k < 0 + 1 then some (-2, vi', vl) else if (-2 : Int32) < 0 then some (-2, vi', vl) else _) = _
  by_cases c : nI k < 0 + 1
  · rw [if_pos c]
  · rw [if_neg c, if_pos (by decide)]
theorem first_all {ns j n D k : Nat} {wh th : Nat → Nat} {A : Nat → Nat → Nat} {vi : VI} {vl : VL} (hD : D ≤ 9) (hk : k < D) (h : DA ns j n wh th A vi vl) : ∃ r vi1 vl1, ((fX2_workOut (98 + 5 * j) (nI D) (-1) vi vl).bind fun r4 => fX9_first_56 ns FU (nI D) (nI k) (98 + 5 * j) 0 (-2) 0 r4.1 r4.2) = some (r, vi1, vl1) ∧ DA ns j n wh th A vi1 vl1 ∧ ∃ vi2 vl2, ((fX10_allWays (nI j) (nI D) (-1) vi1 vl1).bind fun r3 => if (lg_cmp r3.1 0) = 0 then some ((-2), r3.2.1, r3.2.2) else if nI k < nI D then fX10_first_50 FU (nI D) (nI k) 0 0 0 r3.2.1 r3.2.2 else some ((-2), r3.2.1, r3.2.2)) = some (r, vi2, vl2) ∧ DA ns j n wh th A vi2 vl2 := by
  obtain ⟨vi1, vl1, w1, w2, w3, w4⟩ := workout (D := D) hD hx0 h
  have lt := wy_lt (wh := wh) (th := th) (A := A) (ex := e0) (N := n) (K := n) (l := D) (m := 0) (t := 0) hD
  have f9 : 20 < FU := by rw [FU_eq]; omega
  generalize FU = N at f9
  by_cases z : wy wh th A e0 n n D 0 0 = 0
  · obtain ⟨vi2, a1, a2⟩ := first_zero hD hk w2 z
    obtain ⟨vm, vl2, m1, m2, m3, m4, m5, m6⟩ := all_ways (D := D) a2 hx0 hD
    refine ⟨-2, vi2, vl1, ?_, a2, vm, vl2, ?_, m6⟩
    · rw [w1, Option.bind_some]
      exact a1 N (by omega)
    · rw [m1, Option.bind_some]
      exact if_pos ((lz_eq lt).2 z)
  · have hg : sm th n ≤ 81 := by
      by_cases c : sm th n ≤ 81
      · exact c
      · exact absurd (wy_far (wo_A h) D 0 0 vd_0 (by show 0 + 9 * D < sm th n; omega)) z
    rcases w2.2.2 with ⟨_, s, ht⟩ | ⟨c, _⟩
    · obtain ⟨C, vi2, g1, g2, g3⟩ := first_good (k := k) hg hD hk ht k 0 0 0 vi1 (-2) (by omega) (by omega) vd_0 (by omega) (by rw [show D - 0 = D by omega]; omega) w2.1 s
      obtain ⟨vm, vl2, m1, m2, m3, m4, m5, m6⟩ := all_ways (D := D) g2 hx0 hD
      refine ⟨nI C, vi2, vl1, ?_, g2, vm, vl2, ?_, m6⟩
      · rw [w1, Option.bind_some]
        exact g1 N (by omega)
      · rw [m1, Option.bind_some]
        refine (if_neg fun q => z ((lz_eq lt).1 q)).trans ((if_pos (by rw [tlt, tnI (by omega), tnI (by omega)]; omega)).trans ?_)
        exact g3 vm vl2 m2 m3 N (by omega)
    · omega
