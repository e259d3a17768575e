/-! in thought: become, one LOOKING more -/
theorem row_s {α : Type} {f : Nat → Nat → α} {o b : Nat} {g : Nat → α} : j_row f o g o b = g b := if_pos rfl
theorem row_o {α : Type} {f : Nat → Nat → α} {o a b : Nat} {g : Nat → α} (h : a ≠ o) : j_row f o g a b = f a b := if_neg h
theorem cpy0 {α : Type} (f g : Nat → α) (n k : Nat) : va_cpy f g 0 0 n k = if k < n then f k else g k := by
  unfold va_cpy
  by_cases c : k < n
  · rw [if_pos (by omega), if_pos c]; congr 1; omega
  · rw [if_neg (by omega), if_neg c]
theorem become_eq {o x : Nat} (hx : x + 3 ≤ o ∨ o + 3 ≤ x) (vi : VI) : ∃ vi', fX3_become o x vi = some vi' ∧ vi' o 2 = vi x 2 ∧ (∀ k, k < 12 → vi' (o + 1) k = vi (x + 1) k ∧ vi' (o + 2) k = vi (x + 2) k) ∧ ∀ a i, ¬ (a = o ∧ i = 2) → a ≠ o + 1 → a ≠ o + 2 → vi' a i = vi a i := by
  have z0 : (0 : Int32).toNatClampNeg = 0 := rfl
  have z12 : (12 : Int32).toNatClampNeg = 12 := rfl
  unfold fX3_become
  rw [if_pos (by decide), if_pos (by decide)]
  simp only [z0, z12]
  refine ⟨_, rfl, ?_, fun k hk => ⟨?_, ?_⟩, fun a i q1 q2 q3 => ?_⟩
  · rw [up_s, row_o (by omega), row_o (by omega)]
  · rw [up_o (by omega), row_o (by omega), row_s, cpy0, if_pos hk]
  · rw [up_o (by omega), row_s, cpy0, if_pos hk, row_o (by omega)]
  · rw [up_at, if_neg q1, row_o q3, row_o q2]
theorem dp_frame {vc vm vc' vm' : VI} {o n : Nat} (h : DP vc o vm n) (hc : ∀ a i, (a = o ∧ i = 2) ∨ a = o + 1 ∨ a = o + 2 → vc' a i = vc a i) (hm : ∀ a i, (a = 63 ∧ i = 30) ∨ a = 82 ∨ a = 83 → vm' a i = vm a i) : DP vc' o vm' n := by
  obtain ⟨h1, h2, h3, h4⟩ := h
  refine ⟨h1, (hc _ _ (Or.inl ⟨rfl, rfl⟩)).trans h2, (hm _ _ (Or.inl ⟨rfl, rfl⟩)).trans h3, fun k hk => ?_⟩
  rw [hc (o + 1) k (by omega), hc (o + 2) k (by omega), hm 82 k (by omega), hm 83 k (by omega)]
  exact h4 k hk
/-- the dust of one SILL goes into thought -/
theorem become_DP {vc vm : VI} {x n : Nat} (hx : 16 ≤ x) (h : DP vc x vm n) : ∃ vc', fX3_become 13 x vc = some vc' ∧ DP vc' 13 vm n ∧ ∀ a i, ¬ (a = 13 ∧ i = 2) → a ≠ 14 → a ≠ 15 → vc' a i = vc a i := by
  obtain ⟨h1, h2, h3, h4⟩ := h
  obtain ⟨vc', e1, e2, e3, e4⟩ := become_eq (o := 13) (x := x) (by omega) vc
  refine ⟨vc', e1, ⟨h1, e2.trans h2, h3, fun k hk => ?_⟩, e4⟩
  obtain ⟨f1, f2⟩ := e3 k (by omega)
  rw [f1, f2]
  exact h4 k hk
/-- class and model, with the dust o and the pile alike, for SILL j -/
def R1 (ns j o : Nat) (vi vm : VI) (n : Nat) : Prop := I_law vi ∧ I_num ns vi ∧ I_cache ns vi ∧ LawSame j vi vm ∧ DP vi o vm n ∧ vm 63 29 = nI j ∧ ∀ p, p < 6 → vm 66 p = vi 66 p
/-- places that the class writes for a LOOKING -/
def WL (o a i : Nat) : Prop := (a = 5 ∧ i = 5) ∨ a = 7 ∨ a = 8 ∨ (102 ≤ a ∧ a % 5 = 2) ∨ (a = o ∧ i = 2) ∨ a = o + 1 ∨ a = o + 2
/-- places that the model writes in thought -/
def WQ (a i : Nat) : Prop := (80 ≤ a ∧ a ≤ 83) ∨ (a = 63 ∧ (i = 29 ∨ i = 30 ∨ i = 33))
def okO (o : Nat) : Prop := o = 13 ∨ (99 ≤ o ∧ o % 5 = 4)
theorem law_wl {vi vi' : VI} {o : Nat} (ho : okO o) (h : I_law vi) (hf : ∀ a i, ¬ WL o a i → vi' a i = vi a i) : I_law vi' := by
  refine law_frame h fun a i q => hf a i ?_
  unfold WL okO at *
  omega
theorem num_wl {ns : Nat} {vi vi' : VI} {o : Nat} (ho : okO o) (h : I_num ns vi) (hf : ∀ a i, ¬ WL o a i → vi' a i = vi a i) : I_num ns vi' := by
  refine num_frame h fun a i q => hf a i ?_
  unfold WL okO F_num at *
  omega
theorem same_wl {j o : Nat} {vi vi' vm : VI} (ho : okO o) (h : LawSame j vi vm) (hf : ∀ a i, ¬ WL o a i → vi' a i = vi a i) : LawSame j vi' vm := by
  have ok : ∀ a i, 63 ≤ a → a ≤ 79 → vi' a i = vi a i := fun a i q1 q2 => hf a i (by unfold WL okO at *; omega)
  obtain ⟨b1, b2, b3, b4, b5⟩ := h
  exact ⟨(ok _ _ (by omega) (by omega)).trans b1, (ok _ _ (by omega) (by omega)).trans b2, (ok _ _ (by omega) (by omega)).trans b3, (ok _ _ (by omega) (by omega)).trans b4, fun a i p q => (ok a i (by omega) (by omega)).trans (b5 a i p q)⟩
theorem same_wm {j : Nat} {vi vm vm' : VI} (h : LawSame j vi vm) (hf : ∀ a i, ¬ WQ a i → vm' a i = vm a i) : LawSame j vi vm' := by
  have ok : ∀ a i, ¬ WQ a i → vm a i = vm' a i := fun a i q => (hf a i q).symm
  obtain ⟨b1, b2, b3, b4, b5⟩ := h
  exact ⟨b1.trans (ok _ _ (by unfold WQ; omega)), b2.trans (ok _ _ (by unfold WQ; omega)), b3.trans (ok _ _ (by unfold WQ; omega)), b4.trans (ok _ _ (by unfold WQ; omega)), fun a i p q => (b5 a i p q).trans (ok _ _ (by unfold WQ; omega))⟩
theorem same_rfl {j : Nat} {vi : VI} : LawSame j vi vi := ⟨rfl, rfl, rfl, rfl, fun _ _ _ _ => rfl⟩
theorem same_symm {j : Nat} {vi vm : VI} (h : LawSame j vi vm) : LawSame j vm vi := ⟨h.1.symm, h.2.1.symm, h.2.2.1.symm, h.2.2.2.1.symm, fun a i p q => (h.2.2.2.2 a i p q).symm⟩
theorem gives_R1 {ns j o n : Nat} {vi vm : VI} (hj : j < ns) (ho : okO o) (h : R1 ns j o vi vm n) {one much : Nat} (h2 : one < 6) (h3 : much < 10) : ∃ r vi1, r ≤ 9 ∧ fX7_gives (98 + 5 * j) (nI n) (nI one) (nI much) vi = some (nI r, vi1) ∧ R1 ns j o vi1 vm n ∧ (∀ a i, ¬ (a = 5 ∧ i = 5) → a ≠ 7 → a ≠ 8 → a ≠ 102 + 5 * j → vi1 a i = vi a i) ∧ ∃ vm1, fX10_laysBy (nI j) (nI one) (nI much) (nI n) vm = some (nI r, vm1) ∧ ∀ a i, a ≠ 80 → a ≠ 81 → vm1 a i = vm a i := by
  obtain ⟨k1, k2, k3, k4, k5, k6, k7⟩ := h
  have hn : n ≤ 12 := k5.1
  obtain ⟨r, vi1, a1, a2, a3, a4, a5⟩ := p_gives k1 k2 k3 hj hn h2 h3
  obtain ⟨r, hr, rfl⟩ := rng_nI (N := 9) a2 (by omega)
  have fr : ∀ a i, ¬ WL o a i → vi1 a i = vi a i := fun a i q => a3 a i (by unfold WL at q; omega) (by unfold WL at q; omega) (by unfold WL at q; omega) (by unfold WL at q; omega)
  refine ⟨r, vi1, hr, a1, ⟨law_wl ho k1 fr, num_wl ho k2 fr, a4, same_wl ho k4 fr, ?_, k6, fun p hp => ?_⟩, a3, a5 vm k4⟩
  · refine dp_frame k5 (fun a i q => a3 a i ?_ ?_ ?_ ?_) fun _ _ _ => rfl
    · unfold okO at ho; omega
    · unfold okO at ho; omega
    · unfold okO at ho; omega
    · unfold okO at ho; omega
  · rw [k7 p hp, fr 66 p (by unfold WL okO at *; omega)]
theorem goLook_eq (x1 x2 : Int32) (vm : VI) : fX10_goLook x1 x2 vm = (fX10_laysBy (vm 63 29) x1 x2 (vm 63 30) vm).bind fun r1 => if r1.1 = 0 then some (0, r1.2) else tailLook x1 r1.1 r1.2 := rfl
theorem lay_both {ns j o n : Nat} {vi vm : VI} (hj : j < ns) (ho : okO o) (h : R1 ns j o vi vm n) {one much : Nat} (h2 : one < 6) (h3 : much < 10) : ∃ l g vi' vm' n', l ≤ 9 ∧ fX7_layOn (98 + 5 * j) o (nI one) (nI much) vi = some (g, vi') ∧ fX10_goLook (nI one) (nI much) vm = some (nI l, vm') ∧ R1 ns j o vi' vm' n' ∧ (∃ vm1, fX10_laysBy (nI j) (nI one) (nI much) (nI n) vm = some (nI l, vm1)) ∧ (l = 0 → g = 0) ∧ (l ≠ 0 → ∃ n0, n' = n0 + 1 ∧ vm' 83 n0 - (if n ≠ 0 ∧ vm 82 (n - 1) = nI one then vm 83 (n - 1) else 0) = g) ∧ rng g 0 9 ∧ vm' 63 33 = vm 63 33 ∧ (∀ a i, ¬ WL o a i → vi' a i = vi a i) ∧ ∀ a i, ¬ WQ a i → vm' a i = vm a i := by
  obtain ⟨r, vi1, r9, a1, hR, a3, vm1, a4, a5⟩ := gives_R1 hj ho h h2 h3
  have hv2 : vi o 2 = nI n := h.2.2.2.2.1.2.1
  have hm30 : vm 63 30 = nI n := h.2.2.2.2.1.2.2.1
  have hm29 : vm 63 29 = nI j := h.2.2.2.2.2.1
  have fr : ∀ a i, ¬ WL o a i → vi1 a i = vi a i := fun a i q => a3 a i (by unfold WL at q; omega) (by unfold WL at q; omega) (by unfold WL at q; omega) (by unfold WL at q; omega)
  have frm : ∀ a i, ¬ WQ a i → vm1 a i = vm a i := fun a i q => a5 a i (by unfold WQ at q; omega) (by unfold WQ at q; omega)
  unfold fX7_layOn
  rw [goLook_eq, hv2, hm30, hm29, a1, a4]
  simp only [Option.bind_some]
  by_cases c : r = 0
  · subst c
    rw [if_pos (show nI 0 = 0 from rfl)]
    have e : fX3_settle o (nI one) (nI 0) vi1 = some (0, vi1) := by
      unfold fX3_settle
      rw [if_neg (by decide)]
    rw [e]
    simp only [Option.bind_some]
    obtain ⟨k1, k2, k3, k4, k5, k6, k7⟩ := hR
    refine ⟨0, 0, vi1, vm1, n, by omega, rfl, rfl, ⟨k1, k2, k3, same_wm k4 frm, dp_frame k5 (fun _ _ _ => rfl) (fun a i q => a5 a i (by omega) (by omega)), (a5 63 29 (by omega) (by omega)).trans k6, fun p hp => (a5 66 p (by omega) (by omega)).trans (k7 p hp)⟩, ⟨vm1, rfl⟩, fun _ => rfl, fun q => absurd rfl q, ⟨by rw [l0]; omega, by rw [l0]; omega⟩, a5 63 33 (by omega) (by omega), fr, frm⟩
  · rw [if_neg (by rw [teq, tnI (by omega), l0]; omega)]
    obtain ⟨k1, k2, k3, k4, k5, k6, k7⟩ := hR
    have k5' : DP vi1 o vm1 n := dp_frame k5 (fun _ _ _ => rfl) (fun a i q => a5 a i (by omega) (by omega))
    obtain ⟨g, vc', vm', n', b1, b2, b3, b4, b5, b6, b7⟩ := settle_both k5' h2 (show 1 ≤ r by omega) r9
    rw [b1, b2]
    simp only [Option.bind_some]
    have frc : ∀ a i, ¬ WL o a i → vc' a i = vi1 a i := fun a i q => b6 a i (by unfold WL at q; omega) (by unfold WL at q; omega) (by unfold WL at q; omega)
    have frm2 : ∀ a i, ¬ WQ a i → vm' a i = vm1 a i := fun a i q => b7 a i (by unfold WQ at q; omega) (by unfold WQ at q; omega) (by unfold WQ at q; omega)
    have kc : I_cache ns vc' := cache_frame k3 (fun t _ => same_symm (same_wl ho same_rfl frc)) (fun t i _ _ => Or.inl (b6 _ _ (by unfold okO at ho; omega) (by unfold okO at ho; omega) (by unfold okO at ho; omega)))
    refine ⟨r, g, vc', vm', n' + 1, r9, rfl, rfl, ⟨law_wl ho k1 frc, num_wl ho k2 frc, kc, same_wm (same_wm (same_wl ho k4 frc) frm) frm2, b3, ?_, fun p hp => ?_⟩, ⟨vm1, rfl⟩, fun q => absurd q c, fun _ => ⟨n', rfl, ?_⟩, b5, (b7 63 33 (by omega) (by omega) (by omega)).trans (a5 63 33 (by omega) (by omega)), fun a i q => (frc a i q).trans (fr a i q), fun a i q => (frm2 a i q).trans (frm a i q)⟩
    · rw [b7 63 29 (by omega) (by omega) (by omega), a5 63 29 (by omega) (by omega)]; exact k6
    · rw [b7 66 p (by omega) (by omega) (by omega), a5 66 p (by omega) (by omega), k7 p hp, frc 66 p (by unfold WL okO at *; omega)]
    · rw [← b4, a5 82 _ (by omega) (by omega), a5 83 _ (by omega) (by omega)]
/-- the class first, then the model on what is there then -/
def Agree (vi vm : VI) : Prop := ∀ o i, 63 ≤ o → o ≤ 97 → ¬ WQ o i → vm o i = vi o i
theorem ag {vi vm : VI} (hv : Agree vi vm) (o i : Nat) (h : (64 ≤ o ∧ o ≤ 79) ∨ (84 ≤ o ∧ o ≤ 97) ∨ (o = 63 ∧ i ≤ 28)) : vm o i = vi o i := hv o i (by omega) (by omega) (by unfold WQ; omega)
theorem two {α : Type} {C : Option (α × VI)} {M : VI → Option (α × VI)} {vi : VI} {Q : VI → VI → VI → Prop} (h : ∀ vm, Agree vi vm → ∃ r vc' vm', C = some (r, vc') ∧ M vm = some (r, vm') ∧ Agree vi vc' ∧ Q vc' vm vm') : ∃ r vi1, C = some (r, vi1) ∧ ∃ vi2, M vi1 = some (r, vi2) ∧ Q vi1 vi1 vi2 := by
  obtain ⟨r, vc, vm, e1, -, e3, -⟩ := h vi (fun _ _ _ _ _ => rfl)
  obtain ⟨r', vc', vm', f1, f2, -, f4⟩ := h vc e3
  rw [e1] at f1
  obtain ⟨rfl, rfl⟩ := Prod.mk.inj (Option.some.inj f1)
  exact ⟨r, vc, e1, vm', f2, f4⟩
/-- what a call in thought leaves -/
def Left (ns : Nat) (vi vc vm vm' : VI) : Prop := I_cache ns vc ∧ (∀ a i, ¬ WL 13 a i → vc a i = vi a i) ∧ ∀ a i, ¬ WQ a i → vm' a i = vm a i
def Thought (ns : Nat) (vi : VI) (C : Option (Int32 × VI)) (M : VI → Option (Int32 × VI)) : Prop := ∃ r vi1, C = some (r, vi1) ∧ ∃ vi2, M vi1 = some (r, vi2) ∧ I_cache ns vi2 ∧ ∀ o i, ¬ WL 13 o i → ¬ WQ o i → vi2 o i = vi o i
theorem left_agree {ns : Nat} {vi vc vm vm' : VI} (h : Left ns vi vc vm vm') : Agree vi vc := fun o i q1 q2 _ => h.2.1 o i (by unfold WL; omega)
theorem thought_of {ns : Nat} {vi : VI} {C : Option (Int32 × VI)} {M : VI → Option (Int32 × VI)} (h : ∀ vm, Agree vi vm → ∃ r vc' vm', C = some (r, vc') ∧ M vm = some (r, vm') ∧ Left ns vi vc' vm vm') : Thought ns vi C M := by
  obtain ⟨r, vi1, e1, vi2, e2, e3⟩ := two (Q := fun a b c => Left ns vi a b c) fun vm hv => by
    obtain ⟨r, vc', vm', f1, f2, f3⟩ := h vm hv
    exact ⟨r, vc', vm', f1, f2, left_agree f3, f3⟩
  obtain ⟨g1, g2, g3⟩ := e3
  have same : ∀ t, t < ns → LawSame t vi1 vi2 := fun t _ => same_wm same_rfl g3
  refine ⟨r, vi1, e1, vi2, e2, cache_frame g1 same (fun t i _ _ => Or.inl (g3 _ _ (by unfold WQ; omega))), fun o i q1 q2 => (g3 o i q2).trans (g2 o i q1)⟩
theorem thought_same {ns : Nat} {vi : VI} {C : Option (Int32 × VI)} {M : VI → Option (Int32 × VI)} {r : Int32} (hc : I_cache ns vi) (h1 : C = some (r, vi)) (h2 : ∀ vm, Agree vi vm → M vm = some (r, vm)) : Thought ns vi C M := thought_of fun vm hv => ⟨r, vi, vm, h1, h2 vm hv, hc, fun _ _ _ => rfl, fun _ _ _ => rfl⟩
/-- the dust of SILL j, in thought on either side -/
theorem start_R1 {ns j : Nat} {vi vm : VI} (hl : I_law vi) (hn : I_num ns vi) (hc : I_cache ns vi) (hd : I_dust ns vi) (hj : j < ns) (hv : Agree vi vm) : ∃ n vi1 vm1, fX3_become 13 (98 + 5 * j + 1) vi = some vi1 ∧ fX10_layNow (nI j) vm = some vm1 ∧ R1 ns j 13 vi1 vm1 n ∧ (∀ a i, ¬ WL 13 a i → vi1 a i = vi a i) ∧ ∀ a i, ¬ WQ a i → vm1 a i = vm a i := by
  have h5 := hn.1
  obtain ⟨n, vm1, a1, a2, a3, a4⟩ := layNow_DP hd h5 hj (vm := vm) (fun o i q => ag hv o i (by omega))
  obtain ⟨vi1, b1, b2, b3⟩ := become_DP (x := 99 + 5 * j) (by omega) a2
  have frc : ∀ a i, ¬ WL 13 a i → vi1 a i = vi a i := fun a i q => b3 a i (by unfold WL at q; omega) (by unfold WL at q; omega) (by unfold WL at q; omega)
  have frm : ∀ a i, ¬ WQ a i → vm1 a i = vm a i := fun a i q => a4 a i (by unfold WQ at q; omega) (by unfold WQ at q; omega) (by unfold WQ at q; omega)
  have ho : okO 13 := Or.inl rfl
  have sv : LawSame j vi vm := ⟨(ag hv _ _ (by omega)).symm, (ag hv _ _ (by omega)).symm, (ag hv _ _ (by omega)).symm, (ag hv _ _ (by omega)).symm, fun o i p q => (ag hv o i (by omega)).symm⟩
  refine ⟨n, vi1, vm1, by rw [show 98 + 5 * j + 1 = 99 + 5 * j by omega]; exact b1, a1, ⟨law_wl ho hl frc, num_wl ho hn frc, ?_, same_wm (same_wl ho sv frc) frm, b2, a3, fun p hp => ?_⟩, frc, frm⟩
  · exact cache_frame hc (fun t _ => same_symm (same_wl ho same_rfl frc)) (fun t i _ _ => Or.inl (b3 _ _ (by omega) (by omega) (by omega)))
  · rw [frm 66 p (by unfold WQ; omega), ag hv 66 p (by omega), frc 66 p (by unfold WL; omega)]
/-- what holds ahead of a day in thought -/
def T0 (ns : Nat) (vi vm : VI) : Prop := I_law vi ∧ I_num ns vi ∧ I_cache ns vi ∧ I_dust ns vi ∧ Agree vi vm
theorem t0_after {ns : Nat} {vi vm vi' vm' : VI} (h : T0 ns vi vm) (hc : I_cache ns vi') (h1 : ∀ a i, ¬ WL 13 a i → vi' a i = vi a i) (h2 : ∀ a i, ¬ WQ a i → vm' a i = vm a i) : T0 ns vi' vm' := by
  obtain ⟨k1, k2, k3, k4, k5⟩ := h
  have ho : okO 13 := Or.inl rfl
  refine ⟨law_wl ho k1 h1, num_wl ho k2 h1, hc, dust_frame k4 fun a i q => h1 a i (by unfold WL; omega), fun a i q1 q2 q3 => ?_⟩
  rw [h2 a i q3, k5 a i q1 q2 q3, h1 a i (by unfold WL; omega)]
