/-! ACTS: the class's -/
theorem wk1 {D b : Nat} {ab x d : Int32} {vi : VI} (hb : b < 50) : fX0g (D + 1) 1 1 (nI b) ab x d vi = some (x + nI b, vi) := by
  rw [fX0g, if_neg (by decide), if_pos rfl, fX0_worked, if_inb (by rw [tnI (by omega)]; omega), nI_clamp (by omega), if_pos rfl]
theorem wk20 {D b : Nat} {ab x d : Int32} {vi : VI} (hb : b < 50) : fX0g (D + 1) 1 20 (nI b) ab x d vi = (fX0g D 0 (nI b) ab 0 x d vi).bind fun r => some (r.1 + 3, r.2) := by
  rw [fX0g, if_neg (by decide), if_pos rfl, fX0_worked, if_inb (by rw [tnI (by omega)]; omega), nI_clamp (by omega), if_neg (by decide), if_neg (by decide), if_neg (by decide), if_neg (by decide), if_pos rfl]
theorem wk70 {D b : Nat} {ab x d : Int32} {vi : VI} (hb : b < 50) : fX0g (D + 1) 1 70 (nI b) ab x d vi = (fX0g D 0 (nI b) ab 0 x d vi).bind fun r => some (r.1 * 2, r.2) := by
  rw [fX0g, if_neg (by decide), if_pos rfl, fX0_worked, if_inb (by rw [tnI (by omega)]; omega), nI_clamp (by omega), if_neg (by decide), if_neg (by decide), if_neg (by decide), if_neg (by decide), if_neg (by decide), if_neg (by decide), if_neg (by decide), if_neg (by decide), if_neg (by decide), if_neg (by decide), if_neg (by decide), if_pos rfl]
theorem wk81 {D b : Nat} {ab x d : Int32} {vi : VI} (hb : b < 50) : fX0g (D + 1) 1 81 (nI b) ab x d vi = (fX0g D 0 (nI b) ab 0 x d vi).bind fun r => some (r.1 - 1, r.2) := by
  rw [fX0g, if_neg (by decide), if_pos rfl, fX0_worked, if_inb (by rw [tnI (by omega)]; omega), nI_clamp (by omega), if_neg (by decide), if_neg (by decide), if_neg (by decide), if_neg (by decide), if_neg (by decide), if_neg (by decide), if_neg (by decide), if_neg (by decide), if_neg (by decide), if_neg (by decide), if_neg (by decide), if_neg (by decide), if_neg (by decide)]
theorem wk10 {D b : Nat} {ab x d : Int32} {vi : VI} (hb : b < 50) : fX0g (D + 1) 1 10 (nI b) ab x d vi = (fX0g D 0 (nI b) (vi 48 b) 0 x d vi).bind fun r => some (r.1 * 2, r.2) := by
  rw [fX0g, if_neg (by decide), if_pos rfl, fX0_worked, if_inb (by rw [tnI (by omega)]; omega), nI_clamp (by omega), if_neg (by decide), if_neg (by decide), if_pos rfl]
theorem wk30 {D b : Nat} {ab x d : Int32} {vi : VI} (hb : b < 50) : fX0g (D + 1) 1 30 (nI b) ab x d vi = (fX0g D 0 (nI b) ab 1 x d vi).bind fun r => some (-r.1, r.2) := by
  rw [fX0g, if_neg (by decide), if_pos rfl, fX0_worked, if_inb (by rw [tnI (by omega)]; omega), nI_clamp (by omega), if_neg (by decide), if_neg (by decide), if_neg (by decide), if_neg (by decide), if_neg (by decide), if_pos rfl]
theorem wk41 {D b : Nat} {ab x d : Int32} {vi : VI} (hb : b < 50) : fX0g (D + 1) 1 41 (nI b) ab x d vi = (fX0g D 0 (nI b) ab 1 (x + 1) d vi).bind fun r => some (r.1, r.2) := by
  rw [fX0g, if_neg (by decide), if_pos rfl, fX0_worked, if_inb (by rw [tnI (by omega)]; omega), nI_clamp (by omega), if_neg (by decide), if_neg (by decide), if_neg (by decide), if_neg (by decide), if_neg (by decide), if_neg (by decide), if_neg (by decide), if_pos rfl]
theorem wk80 {D b : Nat} {ab x d : Int32} {vi : VI} (hb : b < 50) : fX0g (D + 1) 1 80 (nI b) ab x d vi = (fX0g D 0 (nI b) ab 1 x d vi).bind fun r => (fX0g D 0 (nI b) (vi 48 b) 2 2 d r.2).bind fun q => some (r.1 + q.1, q.2) := by
  rw [fX0g, if_neg (by decide), if_pos rfl, fX0_worked, if_inb (by rw [tnI (by omega)]; omega), nI_clamp (by omega), if_neg (by decide), if_neg (by decide), if_neg (by decide), if_neg (by decide), if_neg (by decide), if_neg (by decide), if_neg (by decide), if_neg (by decide), if_neg (by decide), if_neg (by decide), if_neg (by decide), if_neg (by decide), if_pos rfl]
theorem wk11 {D b : Nat} {ab x d : Int32} {vi : VI} (hb : b < 50) : fX0g (D + 1) 1 11 (nI b) ab x d vi = some (x ^^^ nI b, vi) := by
  rw [fX0g, if_neg (by decide), if_pos rfl, fX0_worked, if_inb (by rw [tnI (by omega)]; omega), nI_clamp (by omega), if_neg (by decide), if_neg (by decide), if_neg (by decide), if_pos rfl]
theorem wk40 {D b : Nat} {ab x d : Int32} {vi : VI} (hb : b < 50) : fX0g (D + 1) 1 40 (nI b) ab x d vi = (fX0g D 0 (nI b) ab 2 x d vi).bind fun r => some (r.1 * 3, r.2) := by
  rw [fX0g, if_neg (by decide), if_pos rfl, fX0_worked, if_inb (by rw [tnI (by omega)]; omega), nI_clamp (by omega), if_neg (by decide), if_neg (by decide), if_neg (by decide), if_neg (by decide), if_neg (by decide), if_neg (by decide), if_pos rfl]
theorem wk60 {D b : Nat} {ab x d : Int32} {vi : VI} (hb : b < 50) : fX0g (D + 1) 1 60 (nI b) ab x d vi = (fX0g D 0 (nI b) ab 2 x d vi).bind fun r => (fX0g D 0 (nI b) (vi 48 b) 0 2 d r.2).bind fun q => some (r.1 - q.1, q.2) := by
  rw [fX0g, if_neg (by decide), if_pos rfl, fX0_worked, if_inb (by rw [tnI (by omega)]; omega), nI_clamp (by omega), if_neg (by decide), if_neg (by decide), if_neg (by decide), if_neg (by decide), if_neg (by decide), if_neg (by decide), if_neg (by decide), if_neg (by decide), if_neg (by decide), if_pos rfl]
theorem wk2 {D b : Nat} {ab x d : Int32} {vi : VI} (hb : b < 50) : fX0g (D + 1) 1 2 (nI b) ab x d vi = (fX0g D 0 (nI b) (vi 48 b) 1 x d vi).bind fun r => (fX0g D 0 (nI b) (vi 48 b) 2 1 d r.2).bind fun q => some (r.1 - q.1, q.2) := by
  rw [fX0g, if_neg (by decide), if_pos rfl, fX0_worked, if_inb (by rw [tnI (by omega)]; omega), nI_clamp (by omega), if_neg (by decide), if_pos rfl]
theorem wk50 {D b : Nat} {ab x d : Int32} {vi : VI} (hb : b < 50) : fX0g (D + 1) 1 50 (nI b) ab x d vi = (fX0g D 0 (nI b) ab 3 x d vi).bind fun r => some (r.1 ^^^ 5, r.2) := by
  rw [fX0g, if_neg (by decide), if_pos rfl, fX0_worked, if_inb (by rw [tnI (by omega)]; omega), nI_clamp (by omega), if_neg (by decide), if_neg (by decide), if_neg (by decide), if_neg (by decide), if_neg (by decide), if_neg (by decide), if_neg (by decide), if_neg (by decide), if_pos rfl]
theorem wk61 {D b : Nat} {ab x d : Int32} {vi : VI} (hb : b < 50) : fX0g (D + 1) 1 61 (nI b) ab x d vi = (fX0g D 0 (nI b) ab 3 x d vi).bind fun r => some (r.1 + 1, r.2) := by
  rw [fX0g, if_neg (by decide), if_pos rfl, fX0_worked, if_inb (by rw [tnI (by omega)]; omega), nI_clamp (by omega), if_neg (by decide), if_neg (by decide), if_neg (by decide), if_neg (by decide), if_neg (by decide), if_neg (by decide), if_neg (by decide), if_neg (by decide), if_neg (by decide), if_neg (by decide), if_pos rfl]
theorem cl {D b k d m : Nat} {x : Int32} {vi : VI} (hk : k < 8) (hb : b < 50) (hm : vi 47 3 = nI m) (hm2 : m ≤ 990) (hd : d ≤ 36) : fX0g (D + 6) 0 (nI b) (nI k) 0 x (nI d) vi = some (lV k x (nI b), (lL k).foldl (stp 47 3 49) vi) := by
  have base : ∀ {D k d m : Nat} {vi : VI}, k < 8 → rj k 0 = 1 → vi 47 3 = nI m → m ≤ 1000 → d < 40 → fX0g (D + 2) 0 (nI b) (nI k) 0 x (nI d) vi = some (x + nI b, (stp 47 3 49) vi 1) := by
    intro D k d m vi hk hj hm hm2 hd
    rw [show (0 : Int32) = nI 0 from rfl, runR hk (by decide) hd hm hm2, hj, wk1 hb]
  have pan : ∀ {D d m : Nat} {vi : VI}, vi 47 3 = nI m → m ≤ 999 → d < 39 → fX0g (D + 4) 0 (nI b) (nI 6) 0 x (nI d) vi = some ((x + nI b) * 2, (stp 47 3 49) ((stp 47 3 49) vi 70) 1) := by
    intro D d m vi hm hm2 hd
    rw [show (0 : Int32) = nI 0 from rfl, runR (by decide) (by decide) (by omega) hm (by omega), show rj 6 0 = 70 from rfl, wk70 hb, show j_abv (rk 6 0) = nI 0 from rfl]
    have := base (D := D) (k := 0) (d := d + 1) (vi := (stp 47 3 49) vi 70) (by decide) rfl (stp_n hm) (by omega) (by omega)
    rw [this]; rfl
  have hk8 : k = 0 ∨ k = 1 ∨ k = 2 ∨ k = 3 ∨ k = 4 ∨ k = 5 ∨ k = 6 ∨ k = 7 := by omega
  rcases hk8 with rfl | rfl | rfl | rfl | rfl | rfl | rfl | rfl
  · exact base (D := D + 4) (by decide) rfl hm (by omega) (by omega)
  · rw [show (0 : Int32) = nI 0 from rfl, runR (by decide) (by decide) (by omega) hm (by omega), show rj 1 0 = 20 from rfl, wk20 hb, show j_abv (rk 1 0) = nI 0 from rfl]
    have := base (D := D + 2) (k := 0) (d := d + 1) (vi := (stp 47 3 49) vi 20) (by decide) rfl (stp_n hm) (by omega) (by omega)
    rw [this]; rfl
  · exact base (D := D + 4) (by decide) rfl hm (by omega) (by omega)
  · exact base (D := D + 4) (by decide) rfl hm (by omega) (by omega)
  · rw [show (0 : Int32) = nI 0 from rfl, runR (by decide) (by decide) (by omega) hm (by omega), show rj 4 0 = 20 from rfl, wk20 hb, show j_abv (rk 4 0) = nI 0 from rfl]
    have := base (D := D + 2) (k := 0) (d := d + 1) (vi := (stp 47 3 49) vi 20) (by decide) rfl (stp_n hm) (by omega) (by omega)
    rw [this]; rfl
  · exact base (D := D + 4) (by decide) rfl hm (by omega) (by omega)
  · exact pan (D := D + 2) hm (by omega) (by omega)
  · rw [show (0 : Int32) = nI 0 from rfl, runR (by decide) (by decide) (by omega) hm (by omega), show rj 7 0 = 81 from rfl, wk81 hb, show j_abv (rk 7 0) = nI 6 from rfl]
    have := pan (D := D) (d := d + 1) (vi := (stp 47 3 49) vi 81) (stp_n hm) (by omega) (by omega)
    rw [this]; rfl
theorem lLn (k : Nat) : (lL k).length ≤ 3 := by unfold lL; split <;> decide
theorem fLn (k : Nat) : (fL k).length ≤ 6 := by unfold fL; split <;> decide
theorem rLn (k : Nat) : (rL k).length ≤ 8 := by unfold rL; split <;> first | decide | (simp only [List.length_cons]; have := lLn k; omega)
theorem fold48 {l : List Int32} {vi : VI} {m : Nat} (h : vi 47 3 = nI m) (h2 : m + l.length ≤ 1000) (i : Nat) : (l.foldl (stp 47 3 49) vi) 48 i = vi 48 i := (fold_t (by decide) l m vi h h2).2.2 48 i (by omega) (by decide)
theorem foldn {l : List Int32} {vi : VI} {m : Nat} (h : vi 47 3 = nI m) (h2 : m + l.length ≤ 1000) : (l.foldl (stp 47 3 49) vi) 47 3 = nI (m + l.length) := (fold_t (by decide) l m vi h h2).1
theorem s48 {vi : VI} {t : Int32} {i : Nat} : (stp 47 3 49) vi t 48 i = vi 48 i := stp_o (by omega) (by decide)
theorem cf {D b k d m : Nat} {x : Int32} {vi : VI} (hk : k < 8) (hb : b < 50) (h48 : vi 48 b = nI k) (hm : vi 47 3 = nI m) (hm2 : m ≤ 980) (hd : d ≤ 34) : fX0g (D + 8) 0 (nI b) (nI k) 2 x (nI d) vi = some (fV k x (nI b), (fL k).foldl (stp 47 3 49) vi) := by
  have base : ∀ {D k d m : Nat} {vi : VI}, k < 8 → rj k 2 = 11 → vi 47 3 = nI m → m ≤ 1000 → d < 40 → fX0g (D + 2) 0 (nI b) (nI k) 2 x (nI d) vi = some (x ^^^ nI b, (stp 47 3 49) vi 11) := by
    intro D k d m vi hk hj hm hm2 hd
    rw [show (2 : Int32) = nI 2 from rfl, runR hk (by decide) hd hm hm2, hj, wk11 hb]
  have cor : ∀ {D d m : Nat} {vi : VI}, vi 47 3 = nI m → m ≤ 999 → d < 39 → fX0g (D + 4) 0 (nI b) (nI 3) 2 x (nI d) vi = some ((x ^^^ nI b) * 3, (stp 47 3 49) ((stp 47 3 49) vi 40) 11) := by
    intro D d m vi hm hm2 hd
    rw [show (2 : Int32) = nI 2 from rfl, runR (by decide) (by decide) (by omega) hm (by omega), show rj 3 2 = 40 from rfl, wk40 hb, show j_abv (rk 3 2) = nI 2 from rfl]
    have := base (D := D) (k := 2) (d := d + 1) (vi := (stp 47 3 49) vi 40) (by decide) rfl (stp_n hm) (by omega) (by omega)
    rw [this]; rfl
  have hk8 : k = 0 ∨ k = 1 ∨ k = 2 ∨ k = 3 ∨ k = 4 ∨ k = 5 ∨ k = 6 ∨ k = 7 := by omega
  rcases hk8 with rfl | rfl | rfl | rfl | rfl | rfl | rfl | rfl
  · exact base (D := D + 6) (by decide) rfl hm (by omega) (by omega)
  · exact base (D := D + 6) (by decide) rfl hm (by omega) (by omega)
  · exact base (D := D + 6) (by decide) rfl hm (by omega) (by omega)
  · exact cor (D := D + 4) hm (by omega) (by omega)
  · exact base (D := D + 6) (by decide) rfl hm (by omega) (by omega)
  · rw [show (2 : Int32) = nI 2 from rfl, runR (by decide) (by decide) (by omega) hm (by omega), show rj 5 2 = 60 from rfl, wk60 hb, show j_abv (rk 5 2) = nI 3 from rfl]
    have h1 := cor (D := D + 2) (d := d + 1) (vi := (stp 47 3 49) vi 60) (stp_n hm) (by omega) (by omega)
    rw [h1]
    have e : ((stp 47 3 49) vi 60) 48 b = nI 5 := by rw [s48, h48]
    rw [e]
    simp only [Option.bind_some]
    have h2 := cl (D := D) (k := 5) (x := 2) (d := d + 1) (vi := (stp 47 3 49) ((stp 47 3 49) ((stp 47 3 49) vi 60) 40) 11) (by decide) hb (stp_n (stp_n (stp_n hm))) (by omega) (by omega)
    rw [h2]; rfl
  · exact base (D := D + 6) (by decide) rfl hm (by omega) (by omega)
  · exact base (D := D + 6) (by decide) rfl hm (by omega) (by omega)
theorem cr {D b k d m : Nat} {x : Int32} {vi : VI} (hk : k < 8) (hb : b < 50) (h48 : vi 48 b = nI k) (hm : vi 47 3 = nI m) (hm2 : m ≤ 960) (hd : d ≤ 30) : fX0g (D + 12) 0 (nI b) (nI k) 1 x (nI d) vi = some (rV k x (nI b), (rL k).foldl (stp 47 3 49) vi) := by
  have base : ∀ {D f d m : Nat} {x : Int32} {vi : VI}, f < 8 → rj f 1 = 10 → vi 48 b = nI k → vi 47 3 = nI m → m ≤ 980 → d ≤ 34 → fX0g (D + 8) 0 (nI b) (nI f) 1 x (nI d) vi = some (lV k x (nI b) * 2, (10 :: lL k).foldl (stp 47 3 49) vi) := by
    intro D f d m x vi hf hj h48 hm hm2 hd
    rw [show (1 : Int32) = nI 1 from rfl, runR hf (by decide) (by omega) hm (by omega), hj, wk10 hb, s48, h48]
    have := cl (D := D) (k := k) (x := x) (d := d + 1) (vi := (stp 47 3 49) vi 10) hk hb (stp_n hm) (by omega) (by omega)
    rw [this]; rfl
  have thu : ∀ {D d m : Nat} {x : Int32} {vi : VI}, vi 48 b = nI k → vi 47 3 = nI m → m ≤ 979 → d ≤ 33 → fX0g (D + 10) 0 (nI b) (nI 2) 1 x (nI d) vi = some (-(lV k x (nI b) * 2), (30 :: 10 :: lL k).foldl (stp 47 3 49) vi) := by
    intro D d m x vi h48 hm hm2 hd
    rw [show (1 : Int32) = nI 1 from rfl, runR (by decide) (by decide) (by omega) hm (by omega), show rj 2 1 = 30 from rfl, wk30 hb, show j_abv (rk 2 1) = nI 0 from rfl]
    have := base (D := D) (f := 0) (d := d + 1) (x := x) (vi := (stp 47 3 49) vi 30) (by decide) rfl (s48.trans h48) (stp_n hm) (by omega) (by omega)
    rw [this]; rfl
  have dou : rj k 1 = 41 → j_abv (rk k 1) = nI 2 → fX0g (D + 12) 0 (nI b) (nI k) 1 x (nI d) vi = some (-(lV k (x + 1) (nI b) * 2), (41 :: 30 :: 10 :: lL k).foldl (stp 47 3 49) vi) := by
    intro hj hr
    rw [show (1 : Int32) = nI 1 from rfl, runR hk (by decide) (by omega) hm (by omega), hj, wk41 hb, hr]
    have := thu (D := D) (d := d + 1) (x := x + 1) (vi := (stp 47 3 49) vi 41) (s48.trans h48) (stp_n hm) (by omega) (by omega)
    rw [this]; rfl
  have hk8 : k = 0 ∨ k = 1 ∨ k = 2 ∨ k = 3 ∨ k = 4 ∨ k = 5 ∨ k = 6 ∨ k = 7 := by omega
  rcases hk8 with rfl | rfl | rfl | rfl | rfl | rfl | rfl | rfl
  · exact base (D := D + 4) (by decide) rfl h48 hm (by omega) (by omega)
  · exact base (D := D + 4) (by decide) rfl h48 hm (by omega) (by omega)
  · exact thu (D := D + 2) h48 hm (by omega) (by omega)
  · exact dou rfl rfl
  · exact base (D := D + 4) (by decide) rfl h48 hm (by omega) (by omega)
  · exact dou rfl rfl
  · exact base (D := D + 4) (by decide) rfl h48 hm (by omega) (by omega)
  · rw [show (1 : Int32) = nI 1 from rfl, runR (by decide) (by decide) (by omega) hm (by omega), show rj 7 1 = 80 from rfl, wk80 hb, show j_abv (rk 7 1) = nI 6 from rfl]
    have h1 := base (D := D + 2) (f := 6) (d := d + 1) (x := x) (vi := (stp 47 3 49) vi 80) (by decide) rfl (s48.trans h48) (stp_n hm) (by omega) (by omega)
    rw [h1, s48, h48]
    simp only [Option.bind_some]
    have h2 := cf (D := D + 2) (k := 7) (x := 2) (d := d + 1) (vi := (10 :: lL 7).foldl (stp 47 3 49) ((stp 47 3 49) vi 80)) (by decide) hb (by rw [fold48 (stp_n hm) (by have := lLn 7; simp only [List.length_cons]; omega), s48, h48]) (foldn (stp_n hm) (by have := lLn 7; simp only [List.length_cons]; omega)) (by have := lLn 7; simp only [List.length_cons]; omega) (by omega)
    rw [h2]; rfl
theorem ct {D b k d m : Nat} {x : Int32} {vi : VI} (hk : k < 8) (hb : b < 50) (h48 : vi 48 b = nI k) (hm : vi 47 3 = nI m) (hm2 : m ≤ 900) (hd : d ≤ 20) : fX0g (D + 18) 0 (nI b) (nI k) 3 x (nI d) vi = some (tV k x (nI b), (tL k).foldl (stp 47 3 49) vi) := by
  have base : ∀ {D f d m : Nat} {x : Int32} {vi : VI}, f < 8 → rj f 3 = 2 → vi 48 b = nI k → vi 47 3 = nI m → m ≤ 940 → d ≤ 28 → fX0g (D + 14) 0 (nI b) (nI f) 3 x (nI d) vi = some (rV k x (nI b) - fV k 1 (nI b), (2 :: rL k ++ fL k).foldl (stp 47 3 49) vi) := by
    intro D f d m x vi hf hj h48 hm hm2 hd
    rw [show (3 : Int32) = nI 3 from rfl, runR hf (by decide) (by omega) hm (by omega), hj, wk2 hb, s48, h48]
    have h1 := cr (D := D) (k := k) (x := x) (d := d + 1) (vi := (stp 47 3 49) vi 2) hk hb (s48.trans h48) (stp_n hm) (by omega) (by omega)
    rw [h1]
    simp only [Option.bind_some]
    have h2 := cf (D := D + 4) (k := k) (x := 1) (d := d + 1) (vi := (rL k).foldl (stp 47 3 49) ((stp 47 3 49) vi 2)) hk hb (by rw [fold48 (stp_n hm) (by have := rLn k; omega), s48, h48]) (foldn (stp_n hm) (by have := rLn k; omega)) (by have := rLn k; omega) (by omega)
    rw [h2, List.cons_append, List.foldl_cons, List.foldl_append]; rfl
  have hk8 : k = 0 ∨ k = 1 ∨ k = 2 ∨ k = 3 ∨ k = 4 ∨ k = 5 ∨ k = 6 ∨ k = 7 := by omega
  rcases hk8 with rfl | rfl | rfl | rfl | rfl | rfl | rfl | rfl
  · exact base (D := D + 4) (by decide) rfl h48 hm (by omega) (by omega)
  · exact base (D := D + 4) (by decide) rfl h48 hm (by omega) (by omega)
  · exact base (D := D + 4) (by decide) rfl h48 hm (by omega) (by omega)
  · exact base (D := D + 4) (by decide) rfl h48 hm (by omega) (by omega)
  · rw [show (3 : Int32) = nI 3 from rfl, runR (by decide) (by decide) (by omega) hm (by omega), show rj 4 3 = 50 from rfl, wk50 hb, show j_abv (rk 4 3) = nI 1 from rfl]
    have h1 := base (D := D + 2) (f := 1) (d := d + 1) (x := x) (vi := (stp 47 3 49) vi 50) (by decide) rfl (s48.trans h48) (stp_n hm) (by omega) (by omega)
    rw [h1]; rfl
  · rw [show (3 : Int32) = nI 3 from rfl, runR (by decide) (by decide) (by omega) hm (by omega), show rj 5 3 = 61 from rfl, wk61 hb, show j_abv (rk 5 3) = nI 3 from rfl]
    have h1 := base (D := D + 2) (f := 3) (d := d + 1) (x := x) (vi := (stp 47 3 49) vi 61) (by decide) rfl (s48.trans h48) (stp_n hm) (by omega) (by omega)
    rw [h1]; rfl
  · exact base (D := D + 4) (by decide) rfl h48 hm (by omega) (by omega)
  · exact base (D := D + 4) (by decide) rfl h48 hm (by omega) (by omega)
theorem ran_eq {vi : VI} {m : Nat} (t : Int32) (hm : vi 63 47 = nI m) (hm2 : m ≤ 1000) : fX10_ran t vi = some ((stp 63 47 93) vi t) := by
  unfold fX10_ran fX10_ran_19 stp
  by_cases c : 24 ≤ vi 63 47
  · simp only [if_pos c]
  · have c2 : inb (vi 63 47) 24 = true := inb_t (by rw [tle, l24] at c; rw [hm, tnI (by omega)] at c ⊢; omega)
    simp only [if_neg c, if_pos c2]
    rw [up_o (show (63 : Nat) ≠ 93 by decide)]
theorem m92 {vi : VI} {t : Int32} {i : Nat} : (stp 63 47 93) vi t 92 i = vi 92 i := stp_o (by omega) (by decide)
theorem mold92 {l : List Int32} {vi : VI} {m : Nat} (h : vi 63 47 = nI m) (h2 : m + l.length ≤ 1000) (i : Nat) : (l.foldl (stp 63 47 93) vi) 92 i = vi 92 i := (fold_t (by decide) l m vi h h2).2.2 92 i (by omega) (by decide)
theorem moldn {l : List Int32} {vi : VI} {m : Nat} (h : vi 63 47 = nI m) (h2 : m + l.length ≤ 1000) : (l.foldl (stp 63 47 93) vi) 63 47 = nI (m + l.length) := (fold_t (by decide) l m vi h h2).1
theorem m_pl {b m : Nat} {x : Int32} {vi : VI} (hm : vi 63 47 = nI m) (hm2 : m ≤ 999) : fX10_plainLies (nI b) x vi = some (x + nI b, (stp 63 47 93) vi 1) := by
  rw [fX10_plainLies, ran_eq 1 hm (by omega)]; rfl
theorem m_pan {b m : Nat} {x : Int32} {vi : VI} (hm : vi 63 47 = nI m) (hm2 : m ≤ 998) : fX10_panLies (nI b) x vi = some ((x + nI b) * 2, (stp 63 47 93) ((stp 63 47 93) vi 70) 1) := by
  rw [fX10_panLies, ran_eq 70 hm (by omega)]
  simp only [Option.bind_some]
  rw [m_pl (stp_n hm) (by omega)]; rfl
theorem ml {b k m : Nat} {x : Int32} {vi : VI} (hk : k < 8) (hb : b < 50) (h92 : vi 92 b = nI k) (hm : vi 63 47 = nI m) (hm2 : m ≤ 990) : fX10_lying (nI b) x vi = some (lV k x (nI b), (lL k).foldl (stp 63 47 93) vi) := by
  unfold fX10_lying
  rw [if_inb (by rw [tnI (by omega)]; omega), if_inb (by rw [tnI (by omega)]; omega), if_inb (by rw [tnI (by omega)]; omega), nI_clamp (by omega), h92]
  have e1 := m_pl (b := b) (x := x) hm (by omega)
  have e2 := m_pan (b := b) (x := x) hm (by omega)
  have e3 := m_pl (b := b) (x := x) (stp_n (t := 20) (ot := 93) hm) (by omega)
  have e4 := m_pan (b := b) (x := x) (stp_n (t := 81) (ot := 93) hm) (by omega)
  rw [ran_eq 20 hm (by omega), ran_eq 81 hm (by omega), e1, e2]
  simp only [Option.bind_some]
  rw [e3, e4]
  have hk8 : k = 0 ∨ k = 1 ∨ k = 2 ∨ k = 3 ∨ k = 4 ∨ k = 5 ∨ k = 6 ∨ k = 7 := by omega
  rcases hk8 with rfl | rfl | rfl | rfl | rfl | rfl | rfl | rfl <;> rfl
theorem m_pf {b m : Nat} {x : Int32} {vi : VI} (hm : vi 63 47 = nI m) (hm2 : m ≤ 999) : fX10_plainFalls (nI b) x vi = some (x ^^^ nI b, (stp 63 47 93) vi 11) := by
  rw [fX10_plainFalls, ran_eq 11 hm (by omega)]; rfl
theorem m_cor {b m : Nat} {x : Int32} {vi : VI} (hm : vi 63 47 = nI m) (hm2 : m ≤ 998) : fX10_cornerFalls (nI b) x vi = some ((x ^^^ nI b) * 3, (stp 63 47 93) ((stp 63 47 93) vi 40) 11) := by
  rw [fX10_cornerFalls, ran_eq 40 hm (by omega)]
  simp only [Option.bind_some]
  rw [m_pf (stp_n hm) (by omega)]; rfl
theorem mf {b k m : Nat} {x : Int32} {vi : VI} (hk : k < 8) (hb : b < 50) (h92 : vi 92 b = nI k) (hm : vi 63 47 = nI m) (hm2 : m ≤ 980) : fX10_falling (nI b) x vi = some (fV k x (nI b), (fL k).foldl (stp 63 47 93) vi) := by
  unfold fX10_falling
  rw [if_inb (by rw [tnI (by omega)]; omega), if_inb (by rw [tnI (by omega)]; omega), nI_clamp (by omega), h92]
  have e1 := m_pf (b := b) (x := x) hm (by omega)
  have e2 := m_cor (b := b) (x := x) hm (by omega)
  have e3 := m_cor (b := b) (x := x) (stp_n (t := 60) (ot := 93) hm) (by omega)
  have e4 := ml (b := b) (k := k) (x := 2) (vi := (stp 63 47 93) ((stp 63 47 93) ((stp 63 47 93) vi 60) 40) 11) hk hb (by rw [m92, m92, m92, h92]) (stp_n (stp_n (stp_n hm))) (by omega)
  rw [ran_eq 60 hm (by omega), e1, e2]
  simp only [Option.bind_some]
  rw [e3]
  simp only [Option.bind_some]
  rw [e4]
  have hk8 : k = 0 ∨ k = 1 ∨ k = 2 ∨ k = 3 ∨ k = 4 ∨ k = 5 ∨ k = 6 ∨ k = 7 := by omega
  rcases hk8 with rfl | rfl | rfl | rfl | rfl | rfl | rfl | rfl <;> rfl
theorem m_pr {b k m : Nat} {x : Int32} {vi : VI} (hk : k < 8) (hb : b < 50) (h92 : vi 92 b = nI k) (hm : vi 63 47 = nI m) (hm2 : m ≤ 980) : fX10_plainReads (nI b) x vi = some (lV k x (nI b) * 2, (10 :: lL k).foldl (stp 63 47 93) vi) := by
  rw [fX10_plainReads, ran_eq 10 hm (by omega)]
  simp only [Option.bind_some]
  rw [ml hk hb (by rw [m92, h92]) (stp_n hm) (by omega)]; rfl
theorem m_th {b k m : Nat} {x : Int32} {vi : VI} (hk : k < 8) (hb : b < 50) (h92 : vi 92 b = nI k) (hm : vi 63 47 = nI m) (hm2 : m ≤ 970) : fX10_thursdayReads (nI b) x vi = some (-(lV k x (nI b) * 2), (30 :: 10 :: lL k).foldl (stp 63 47 93) vi) := by
  rw [fX10_thursdayReads, ran_eq 30 hm (by omega)]
  simp only [Option.bind_some]
  rw [m_pr hk hb (by rw [m92, h92]) (stp_n hm) (by omega)]; rfl
theorem mr {b k m : Nat} {x : Int32} {vi : VI} (hk : k < 8) (hb : b < 50) (h92 : vi 92 b = nI k) (hm : vi 63 47 = nI m) (hm2 : m ≤ 960) : fX10_reading (nI b) x vi = some (rV k x (nI b), (rL k).foldl (stp 63 47 93) vi) := by
  unfold fX10_reading
  rw [if_inb (by rw [tnI (by omega)]; omega), if_inb (by rw [tnI (by omega)]; omega), if_inb (by rw [tnI (by omega)]; omega), nI_clamp (by omega), h92]
  have e1 := m_pr (x := x) hk hb h92 hm (by omega)
  have e2 := m_th (x := x) hk hb h92 hm (by omega)
  have e3 := m_th (x := x + 1) hk hb (vi := (stp 63 47 93) vi 41) (by rw [m92, h92]) (stp_n hm) (by omega)
  have e4 := m_pr (x := x) hk hb (vi := (stp 63 47 93) vi 80) (by rw [m92, h92]) (stp_n hm) (by omega)
  have e5 := mf (x := 2) hk hb (vi := (10 :: lL k).foldl (stp 63 47 93) ((stp 63 47 93) vi 80)) (by rw [mold92 (stp_n hm) (by have := lLn k; simp only [List.length_cons]; omega), m92, h92]) (moldn (stp_n hm) (by have := lLn k; simp only [List.length_cons]; omega)) (by have := lLn k; simp only [List.length_cons]; omega)
  rw [ran_eq 41 hm (by omega), ran_eq 80 hm (by omega), e1, e2]
  simp only [Option.bind_some]
  rw [e3, e4]
  simp only [Option.bind_some]
  rw [e5]
  have hk8 : k = 0 ∨ k = 1 ∨ k = 2 ∨ k = 3 ∨ k = 4 ∨ k = 5 ∨ k = 6 ∨ k = 7 := by omega
  rcases hk8 with rfl | rfl | rfl | rfl | rfl | rfl | rfl | rfl <;> rfl
theorem m_pt {b k m : Nat} {x : Int32} {vi : VI} (hk : k < 8) (hb : b < 50) (h92 : vi 92 b = nI k) (hm : vi 63 47 = nI m) (hm2 : m ≤ 940) : fX10_plainTells (nI b) x vi = some (rV k x (nI b) - fV k 1 (nI b), (2 :: rL k ++ fL k).foldl (stp 63 47 93) vi) := by
  rw [fX10_plainTells, ran_eq 2 hm (by omega)]
  simp only [Option.bind_some]
  rw [mr hk hb (by rw [m92, h92]) (stp_n hm) (by omega)]
  simp only [Option.bind_some]
  rw [mf (x := 1) hk hb (vi := (rL k).foldl (stp 63 47 93) ((stp 63 47 93) vi 2)) (by rw [mold92 (stp_n hm) (by have := rLn k; omega), m92, h92]) (moldn (stp_n hm) (by have := rLn k; omega)) (by have := rLn k; omega), List.cons_append, List.foldl_cons, List.foldl_append]; rfl
theorem mt {b k m : Nat} {x : Int32} {vi : VI} (hk : k < 8) (hb : b < 50) (h92 : vi 92 b = nI k) (hm : vi 63 47 = nI m) (hm2 : m ≤ 900) : fX10_telling (nI b) x vi = some (tV k x (nI b), (tL k).foldl (stp 63 47 93) vi) := by
  unfold fX10_telling
  rw [if_inb (by rw [tnI (by omega)]; omega), if_inb (by rw [tnI (by omega)]; omega), nI_clamp (by omega), h92]
  have e1 := m_pt (x := x) hk hb h92 hm (by omega)
  have e2 := m_pt (x := x) hk hb (vi := (stp 63 47 93) vi 50) (by rw [m92, h92]) (stp_n hm) (by omega)
  have e3 := m_pt (x := x) hk hb (vi := (stp 63 47 93) vi 61) (by rw [m92, h92]) (stp_n hm) (by omega)
  rw [ran_eq 50 hm (by omega), ran_eq 61 hm (by omega), e1]
  simp only [Option.bind_some]
  rw [e2, e3]
  have hk8 : k = 0 ∨ k = 1 ∨ k = 2 ∨ k = 3 ∨ k = 4 ∨ k = 5 ∨ k = 6 ∨ k = 7 := by omega
  rcases hk8 with rfl | rfl | rfl | rfl | rfl | rfl | rfl | rfl <;> rfl
