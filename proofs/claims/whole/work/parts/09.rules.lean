theorem j_iconst {G : GT} {Γ : CT} {M : MI} {d MC MS : Nat} (B : Base G Γ M d MC MS) {cs ss pc : Nat} {L : List (Nat × Value)} {rest : List Value} {sv : SV} {vi : VI} {vl : VL} {n : Int} {v : Int32} (hdg : decode M.2.1 pc = .ok (.iconst n, 1)) (hv : Int32.ofInt n = v) (k : J G Γ cs ss (pc + 1) L (.int v :: rest) sv vi vl) : J G Γ cs ss pc L (rest) sv vi vl := by
  obtain ⟨p, e, R, s, m, args, below, meth, c, Qw⟩ := Γ
  intro H locs ls hz hP hS hl
  exact lv_iconst B.1 B.2.1 hdg hv (k H locs ls hz hP hS hl)
theorem j_bipush {G : GT} {Γ : CT} {M : MI} {d MC MS : Nat} (B : Base G Γ M d MC MS) {cs ss pc : Nat} {L : List (Nat × Value)} {rest : List Value} {sv : SV} {vi : VI} {vl : VL} {n : Int} {v : Int32} (hdg : decode M.2.1 pc = .ok (.bipush n, 2)) (hv : (Int8.ofInt n).toInt32 = v) (k : J G Γ cs ss (pc + 2) L (.int v :: rest) sv vi vl) : J G Γ cs ss pc L (rest) sv vi vl := by
  obtain ⟨p, e, R, s, m, args, below, meth, c, Qw⟩ := Γ
  intro H locs ls hz hP hS hl
  exact lv_bipush B.1 B.2.1 hdg hv (k H locs ls hz hP hS hl)
theorem j_sipush {G : GT} {Γ : CT} {M : MI} {d MC MS : Nat} (B : Base G Γ M d MC MS) {cs ss pc : Nat} {L : List (Nat × Value)} {rest : List Value} {sv : SV} {vi : VI} {vl : VL} {n : Int} {v : Int32} (hdg : decode M.2.1 pc = .ok (.sipush n, 3)) (hv : (Int16.ofInt n).toInt32 = v) (k : J G Γ cs ss (pc + 3) L (.int v :: rest) sv vi vl) : J G Γ cs ss pc L (rest) sv vi vl := by
  obtain ⟨p, e, R, s, m, args, below, meth, c, Qw⟩ := Γ
  intro H locs ls hz hP hS hl
  exact lv_sipush B.1 B.2.1 hdg hv (k H locs ls hz hP hS hl)
theorem j_lconst {G : GT} {Γ : CT} {M : MI} {d MC MS : Nat} (B : Base G Γ M d MC MS) {cs ss pc : Nat} {L : List (Nat × Value)} {rest : List Value} {sv : SV} {vi : VI} {vl : VL} {n : Fin 2} {v : Int64} (hdg : decode M.2.1 pc = .ok (.lconst n, 1)) (hv : Int64.ofNat (n : Nat) = v) (k : J G Γ cs ss (pc + 1) L (.long v :: rest) sv vi vl) : J G Γ cs ss pc L (rest) sv vi vl := by
  obtain ⟨p, e, R, s, m, args, below, meth, c, Qw⟩ := Γ
  intro H locs ls hz hP hS hl
  exact lv_lconst B.1 B.2.1 hdg hv (k H locs ls hz hP hS hl)
theorem j_null {G : GT} {Γ : CT} {M : MI} {d MC MS : Nat} (B : Base G Γ M d MC MS) {cs ss pc : Nat} {L : List (Nat × Value)} {rest : List Value} {sv : SV} {vi : VI} {vl : VL}  (hdg : decode M.2.1 pc = .ok (.aconst_null, 1))  (k : J G Γ cs ss (pc + 1) L (.null :: rest) sv vi vl) : J G Γ cs ss pc L (rest) sv vi vl := by
  obtain ⟨p, e, R, s, m, args, below, meth, c, Qw⟩ := Γ
  intro H locs ls hz hP hS hl
  exact lv_null B.1 B.2.1 hdg  (k H locs ls hz hP hS hl)
theorem j_iload_n {G : GT} {Γ : CT} {M : MI} {d MC MS : Nat} (B : Base G Γ M d MC MS) {cs ss pc : Nat} {L : List (Nat × Value)} {rest : List Value} {sv : SV} {vi : VI} {vl : VL} {n : Fin 4} {i : Nat} {x : Int32} (hdg : decode M.2.1 pc = .ok (.iload_n n, 1)) (hi : (n : Nat) = i) (q : Nat) (hq : L[q]? = some (i, .int x)) (k : J G Γ cs ss (pc + 1) L (.int x :: rest) sv vi vl) : J G Γ cs ss pc L (rest) sv vi vl := by
  obtain ⟨p, e, R, s, m, args, below, meth, c, Qw⟩ := Γ
  intro H locs ls hz hP hS hl
  exact lv_iload_n B.1 B.2.1 hdg hi (lv_at hl q hq) (k H locs ls hz hP hS hl)
theorem j_iload {G : GT} {Γ : CT} {M : MI} {d MC MS : Nat} (B : Base G Γ M d MC MS) {cs ss pc : Nat} {L : List (Nat × Value)} {rest : List Value} {sv : SV} {vi : VI} {vl : VL} {i : Nat} {x : Int32} (hdg : decode M.2.1 pc = .ok (.iload i, 2)) (q : Nat) (hq : L[q]? = some (i, .int x)) (k : J G Γ cs ss (pc + 2) L (.int x :: rest) sv vi vl) : J G Γ cs ss pc L (rest) sv vi vl := by
  obtain ⟨p, e, R, s, m, args, below, meth, c, Qw⟩ := Γ
  intro H locs ls hz hP hS hl
  exact lv_iload B.1 B.2.1 hdg (lv_at hl q hq) (k H locs ls hz hP hS hl)
theorem j_istore_n {G : GT} {Γ : CT} {M : MI} {d MC MS : Nat} (B : Base G Γ M d MC MS) {cs ss pc : Nat} {L : List (Nat × Value)} {rest : List Value} {sv : SV} {vi : VI} {vl : VL} {n : Fin 4} {i : Nat} {x : Int32} {L' : List (Nat × Value)} (hdg : decode M.2.1 pc = .ok (.istore_n n, 1)) (hi : (n : Nat) = i) (hn : i < M.2.2.1) (hL : (i, Value.int x) :: L.filter (fun q => !(q.1 == i) && !(q.1 + 1 == i && q.2.category == 2)) = L') (k : J G Γ cs ss (pc + 1) L' rest sv vi vl) : J G Γ cs ss pc L (.int x :: rest) sv vi vl := by
  obtain ⟨p, e, R, s, m, args, below, meth, c, Qw⟩ := Γ
  intro H locs ls hz hP hS hl
  exact lv_istore_n B.1 B.2.1 hdg hi hl (by rw [B.2.2.2.1]; exact hn) hL (fun ls' hl' => k H locs ls' hz hP hS hl')
theorem j_istore {G : GT} {Γ : CT} {M : MI} {d MC MS : Nat} (B : Base G Γ M d MC MS) {cs ss pc : Nat} {L : List (Nat × Value)} {rest : List Value} {sv : SV} {vi : VI} {vl : VL} {i : Nat} {x : Int32} {L' : List (Nat × Value)} (hdg : decode M.2.1 pc = .ok (.istore i, 2)) (hn : i < M.2.2.1) (hL : (i, Value.int x) :: L.filter (fun q => !(q.1 == i) && !(q.1 + 1 == i && q.2.category == 2)) = L') (k : J G Γ cs ss (pc + 2) L' rest sv vi vl) : J G Γ cs ss pc L (.int x :: rest) sv vi vl := by
  obtain ⟨p, e, R, s, m, args, below, meth, c, Qw⟩ := Γ
  intro H locs ls hz hP hS hl
  exact lv_istore B.1 B.2.1 hdg hl (by rw [B.2.2.2.1]; exact hn) hL (fun ls' hl' => k H locs ls' hz hP hS hl')
theorem j_lload_n {G : GT} {Γ : CT} {M : MI} {d MC MS : Nat} (B : Base G Γ M d MC MS) {cs ss pc : Nat} {L : List (Nat × Value)} {rest : List Value} {sv : SV} {vi : VI} {vl : VL} {n : Fin 4} {i : Nat} {x : Int64} (hdg : decode M.2.1 pc = .ok (.lload_n n, 1)) (hi : (n : Nat) = i) (q : Nat) (hq : L[q]? = some (i, .long x)) (k : J G Γ cs ss (pc + 1) L (.long x :: rest) sv vi vl) : J G Γ cs ss pc L (rest) sv vi vl := by
  obtain ⟨p, e, R, s, m, args, below, meth, c, Qw⟩ := Γ
  intro H locs ls hz hP hS hl
  exact lv_lload_n B.1 B.2.1 hdg hi (lv_at hl q hq) (k H locs ls hz hP hS hl)
theorem j_lload {G : GT} {Γ : CT} {M : MI} {d MC MS : Nat} (B : Base G Γ M d MC MS) {cs ss pc : Nat} {L : List (Nat × Value)} {rest : List Value} {sv : SV} {vi : VI} {vl : VL} {i : Nat} {x : Int64} (hdg : decode M.2.1 pc = .ok (.lload i, 2)) (q : Nat) (hq : L[q]? = some (i, .long x)) (k : J G Γ cs ss (pc + 2) L (.long x :: rest) sv vi vl) : J G Γ cs ss pc L (rest) sv vi vl := by
  obtain ⟨p, e, R, s, m, args, below, meth, c, Qw⟩ := Γ
  intro H locs ls hz hP hS hl
  exact lv_lload B.1 B.2.1 hdg (lv_at hl q hq) (k H locs ls hz hP hS hl)
theorem j_lstore_n {G : GT} {Γ : CT} {M : MI} {d MC MS : Nat} (B : Base G Γ M d MC MS) {cs ss pc : Nat} {L : List (Nat × Value)} {rest : List Value} {sv : SV} {vi : VI} {vl : VL} {n : Fin 4} {i : Nat} {x : Int64} {L' : List (Nat × Value)} (hdg : decode M.2.1 pc = .ok (.lstore_n n, 1)) (hi : (n : Nat) = i) (hn : i + 1 < M.2.2.1) (hL : (i, Value.long x) :: L.filter (fun q => !(q.1 == i) && (!(q.1 == i + 1) && !(q.1 + 1 == i && q.2.category == 2))) = L') (k : J G Γ cs ss (pc + 1) L' rest sv vi vl) : J G Γ cs ss pc L (.long x :: rest) sv vi vl := by
  obtain ⟨p, e, R, s, m, args, below, meth, c, Qw⟩ := Γ
  intro H locs ls hz hP hS hl
  exact lv_lstore_n B.1 B.2.1 hdg hi hl (by rw [B.2.2.2.1]; exact hn) hL (fun ls' hl' => k H locs ls' hz hP hS hl')
theorem j_lstore {G : GT} {Γ : CT} {M : MI} {d MC MS : Nat} (B : Base G Γ M d MC MS) {cs ss pc : Nat} {L : List (Nat × Value)} {rest : List Value} {sv : SV} {vi : VI} {vl : VL} {i : Nat} {x : Int64} {L' : List (Nat × Value)} (hdg : decode M.2.1 pc = .ok (.lstore i, 2)) (hn : i + 1 < M.2.2.1) (hL : (i, Value.long x) :: L.filter (fun q => !(q.1 == i) && (!(q.1 == i + 1) && !(q.1 + 1 == i && q.2.category == 2))) = L') (k : J G Γ cs ss (pc + 2) L' rest sv vi vl) : J G Γ cs ss pc L (.long x :: rest) sv vi vl := by
  obtain ⟨p, e, R, s, m, args, below, meth, c, Qw⟩ := Γ
  intro H locs ls hz hP hS hl
  exact lv_lstore B.1 B.2.1 hdg hl (by rw [B.2.2.2.1]; exact hn) hL (fun ls' hl' => k H locs ls' hz hP hS hl')
theorem j_aload_n {G : GT} {Γ : CT} {M : MI} {d MC MS : Nat} (B : Base G Γ M d MC MS) {cs ss pc : Nat} {L : List (Nat × Value)} {rest : List Value} {sv : SV} {vi : VI} {vl : VL} {n : Fin 4} {i : Nat} {x : Nat} (hdg : decode M.2.1 pc = .ok (.aload_n n, 1)) (hi : (n : Nat) = i) (q : Nat) (hq : L[q]? = some (i, .ref x)) (k : J G Γ cs ss (pc + 1) L (.ref x :: rest) sv vi vl) : J G Γ cs ss pc L (rest) sv vi vl := by
  obtain ⟨p, e, R, s, m, args, below, meth, c, Qw⟩ := Γ
  intro H locs ls hz hP hS hl
  exact lv_aload_n B.1 B.2.1 hdg hi (lv_at hl q hq) (k H locs ls hz hP hS hl)
theorem j_aload {G : GT} {Γ : CT} {M : MI} {d MC MS : Nat} (B : Base G Γ M d MC MS) {cs ss pc : Nat} {L : List (Nat × Value)} {rest : List Value} {sv : SV} {vi : VI} {vl : VL} {i : Nat} {x : Nat} (hdg : decode M.2.1 pc = .ok (.aload i, 2)) (q : Nat) (hq : L[q]? = some (i, .ref x)) (k : J G Γ cs ss (pc + 2) L (.ref x :: rest) sv vi vl) : J G Γ cs ss pc L (rest) sv vi vl := by
  obtain ⟨p, e, R, s, m, args, below, meth, c, Qw⟩ := Γ
  intro H locs ls hz hP hS hl
  exact lv_aload B.1 B.2.1 hdg (lv_at hl q hq) (k H locs ls hz hP hS hl)
theorem j_astore_n {G : GT} {Γ : CT} {M : MI} {d MC MS : Nat} (B : Base G Γ M d MC MS) {cs ss pc : Nat} {L : List (Nat × Value)} {rest : List Value} {sv : SV} {vi : VI} {vl : VL} {n : Fin 4} {i : Nat} {x : Nat} {L' : List (Nat × Value)} (hdg : decode M.2.1 pc = .ok (.astore_n n, 1)) (hi : (n : Nat) = i) (hn : i < M.2.2.1) (hL : (i, Value.ref x) :: L.filter (fun q => !(q.1 == i) && !(q.1 + 1 == i && q.2.category == 2)) = L') (k : J G Γ cs ss (pc + 1) L' rest sv vi vl) : J G Γ cs ss pc L (.ref x :: rest) sv vi vl := by
  obtain ⟨p, e, R, s, m, args, below, meth, c, Qw⟩ := Γ
  intro H locs ls hz hP hS hl
  exact lv_astore_n B.1 B.2.1 hdg hi hl (by rw [B.2.2.2.1]; exact hn) hL (fun ls' hl' => k H locs ls' hz hP hS hl')
theorem j_astore {G : GT} {Γ : CT} {M : MI} {d MC MS : Nat} (B : Base G Γ M d MC MS) {cs ss pc : Nat} {L : List (Nat × Value)} {rest : List Value} {sv : SV} {vi : VI} {vl : VL} {i : Nat} {x : Nat} {L' : List (Nat × Value)} (hdg : decode M.2.1 pc = .ok (.astore i, 2)) (hn : i < M.2.2.1) (hL : (i, Value.ref x) :: L.filter (fun q => !(q.1 == i) && !(q.1 + 1 == i && q.2.category == 2)) = L') (k : J G Γ cs ss (pc + 2) L' rest sv vi vl) : J G Γ cs ss pc L (.ref x :: rest) sv vi vl := by
  obtain ⟨p, e, R, s, m, args, below, meth, c, Qw⟩ := Γ
  intro H locs ls hz hP hS hl
  exact lv_astore B.1 B.2.1 hdg hl (by rw [B.2.2.2.1]; exact hn) hL (fun ls' hl' => k H locs ls' hz hP hS hl')
theorem j_aloadN_n {G : GT} {Γ : CT} {M : MI} {d MC MS : Nat} (B : Base G Γ M d MC MS) {cs ss pc : Nat} {L : List (Nat × Value)} {rest : List Value} {sv : SV} {vi : VI} {vl : VL} {n : Fin 4} {i : Nat} (hdg : decode M.2.1 pc = .ok (.aload_n n, 1)) (hi : (n : Nat) = i) (q : Nat) (hq : L[q]? = some (i, .null)) (k : J G Γ cs ss (pc + 1) L (.null :: rest) sv vi vl) : J G Γ cs ss pc L rest sv vi vl := by
  obtain ⟨p, e, R, s, m, args, below, meth, c, Qw⟩ := Γ
  intro H locs ls hz hP hS hl
  exact lv_aload_nN B.1 B.2.1 hdg hi (lv_at hl q hq) (k H locs ls hz hP hS hl)
theorem j_astore_nN {G : GT} {Γ : CT} {M : MI} {d MC MS : Nat} (B : Base G Γ M d MC MS) {cs ss pc : Nat} {L : List (Nat × Value)} {rest : List Value} {sv : SV} {vi : VI} {vl : VL} {n : Fin 4} {i : Nat} {L' : List (Nat × Value)} (hdg : decode M.2.1 pc = .ok (.astore_n n, 1)) (hi : (n : Nat) = i) (hn : i < M.2.2.1) (hL : (i, Value.null) :: L.filter (fun q => !(q.1 == i) && !(q.1 + 1 == i && q.2.category == 2)) = L') (k : J G Γ cs ss (pc + 1) L' rest sv vi vl) : J G Γ cs ss pc L (.null :: rest) sv vi vl := by
  obtain ⟨p, e, R, s, m, args, below, meth, c, Qw⟩ := Γ
  intro H locs ls hz hP hS hl
  exact lv_astore_nN B.1 B.2.1 hdg hi hl (by rw [B.2.2.2.1]; exact hn) hL (fun ls' hl' => k H locs ls' hz hP hS hl')
theorem j_astoreN {G : GT} {Γ : CT} {M : MI} {d MC MS : Nat} (B : Base G Γ M d MC MS) {cs ss pc : Nat} {L : List (Nat × Value)} {rest : List Value} {sv : SV} {vi : VI} {vl : VL} {i : Nat} {L' : List (Nat × Value)} (hdg : decode M.2.1 pc = .ok (.astore i, 2)) (hn : i < M.2.2.1) (hL : (i, Value.null) :: L.filter (fun q => !(q.1 == i) && !(q.1 + 1 == i && q.2.category == 2)) = L') (k : J G Γ cs ss (pc + 2) L' rest sv vi vl) : J G Γ cs ss pc L (.null :: rest) sv vi vl := by
  obtain ⟨p, e, R, s, m, args, below, meth, c, Qw⟩ := Γ
  intro H locs ls hz hP hS hl
  exact lv_astoreN B.1 B.2.1 hdg hl (by rw [B.2.2.2.1]; exact hn) hL (fun ls' hl' => k H locs ls' hz hP hS hl')
theorem j_iinc {G : GT} {Γ : CT} {M : MI} {d MC MS : Nat} (B : Base G Γ M d MC MS) {cs ss pc : Nat} {L : List (Nat × Value)} {rest : List Value} {sv : SV} {vi : VI} {vl : VL} {i : Nat} {n : Int} {x v : Int32} {L' : List (Nat × Value)} (hdg : decode M.2.1 pc = .ok (.iinc i n, 3)) (q : Nat) (hq : L[q]? = some (i, .int x)) (hv : x + Int32.ofInt n = v) (hn : i < M.2.2.1) (hL : (i, Value.int v) :: L.filter (fun q => !(q.1 == i) && !(q.1 + 1 == i && q.2.category == 2)) = L') (k : J G Γ cs ss (pc + 3) L' rest sv vi vl) : J G Γ cs ss pc L rest sv vi vl := by
  obtain ⟨p, e, R, s, m, args, below, meth, c, Qw⟩ := Γ
  intro H locs ls hz hP hS hl
  exact lv_iinc B.1 B.2.1 hdg hl hq hv (by rw [B.2.2.2.1]; exact hn) hL (fun ls' hl' => k H locs ls' hz hP hS hl')
theorem j_iincW {G : GT} {Γ : CT} {M : MI} {d MC MS : Nat} (B : Base G Γ M d MC MS) {cs ss pc : Nat} {L : List (Nat × Value)} {rest : List Value} {sv : SV} {vi : VI} {vl : VL} {i : Nat} {n : Int} {x v : Int32} {L' : List (Nat × Value)} (hdg : decode M.2.1 pc = .ok (.iinc i n, 6)) (q : Nat) (hq : L[q]? = some (i, .int x)) (hv : x + Int32.ofInt n = v) (hn : i < M.2.2.1) (hL : (i, Value.int v) :: L.filter (fun q => !(q.1 == i) && !(q.1 + 1 == i && q.2.category == 2)) = L') (k : J G Γ cs ss (pc + 6) L' rest sv vi vl) : J G Γ cs ss pc L rest sv vi vl := by
  obtain ⟨p, e, R, s, m, args, below, meth, c, Qw⟩ := Γ
  intro H locs ls hz hP hS hl
  exact lv_iincW B.1 B.2.1 hdg hl hq hv (by rw [B.2.2.2.1]; exact hn) hL (fun ls' hl' => k H locs ls' hz hP hS hl')
theorem j_iadd {G : GT} {Γ : CT} {M : MI} {d MC MS : Nat} (B : Base G Γ M d MC MS) {cs ss pc : Nat} {L : List (Nat × Value)} {rest : List Value} {sv : SV} {vi : VI} {vl : VL} {x y : Int32} (hdg : decode M.2.1 pc = .ok (.iadd, 1))  (k : J G Γ cs ss (pc + 1) L (.int (x + y) :: rest) sv vi vl) : J G Γ cs ss pc L (.int y :: .int x :: rest) sv vi vl := by
  obtain ⟨p, e, R, s, m, args, below, meth, c, Qw⟩ := Γ
  intro H locs ls hz hP hS hl
  exact lv_iadd B.1 B.2.1 hdg  (k H locs ls hz hP hS hl)
theorem j_isub {G : GT} {Γ : CT} {M : MI} {d MC MS : Nat} (B : Base G Γ M d MC MS) {cs ss pc : Nat} {L : List (Nat × Value)} {rest : List Value} {sv : SV} {vi : VI} {vl : VL} {x y : Int32} (hdg : decode M.2.1 pc = .ok (.isub, 1))  (k : J G Γ cs ss (pc + 1) L (.int (x - y) :: rest) sv vi vl) : J G Γ cs ss pc L (.int y :: .int x :: rest) sv vi vl := by
  obtain ⟨p, e, R, s, m, args, below, meth, c, Qw⟩ := Γ
  intro H locs ls hz hP hS hl
  exact lv_isub B.1 B.2.1 hdg  (k H locs ls hz hP hS hl)
theorem j_imul {G : GT} {Γ : CT} {M : MI} {d MC MS : Nat} (B : Base G Γ M d MC MS) {cs ss pc : Nat} {L : List (Nat × Value)} {rest : List Value} {sv : SV} {vi : VI} {vl : VL} {x y : Int32} (hdg : decode M.2.1 pc = .ok (.imul, 1))  (k : J G Γ cs ss (pc + 1) L (.int (x * y) :: rest) sv vi vl) : J G Γ cs ss pc L (.int y :: .int x :: rest) sv vi vl := by
  obtain ⟨p, e, R, s, m, args, below, meth, c, Qw⟩ := Γ
  intro H locs ls hz hP hS hl
  exact lv_imul B.1 B.2.1 hdg  (k H locs ls hz hP hS hl)
theorem j_iand {G : GT} {Γ : CT} {M : MI} {d MC MS : Nat} (B : Base G Γ M d MC MS) {cs ss pc : Nat} {L : List (Nat × Value)} {rest : List Value} {sv : SV} {vi : VI} {vl : VL} {x y : Int32} (hdg : decode M.2.1 pc = .ok (.iand, 1))  (k : J G Γ cs ss (pc + 1) L (.int (x &&& y) :: rest) sv vi vl) : J G Γ cs ss pc L (.int y :: .int x :: rest) sv vi vl := by
  obtain ⟨p, e, R, s, m, args, below, meth, c, Qw⟩ := Γ
  intro H locs ls hz hP hS hl
  exact lv_iand B.1 B.2.1 hdg  (k H locs ls hz hP hS hl)
theorem j_ior {G : GT} {Γ : CT} {M : MI} {d MC MS : Nat} (B : Base G Γ M d MC MS) {cs ss pc : Nat} {L : List (Nat × Value)} {rest : List Value} {sv : SV} {vi : VI} {vl : VL} {x y : Int32} (hdg : decode M.2.1 pc = .ok (.ior, 1))  (k : J G Γ cs ss (pc + 1) L (.int (x ||| y) :: rest) sv vi vl) : J G Γ cs ss pc L (.int y :: .int x :: rest) sv vi vl := by
  obtain ⟨p, e, R, s, m, args, below, meth, c, Qw⟩ := Γ
  intro H locs ls hz hP hS hl
  exact lv_ior B.1 B.2.1 hdg  (k H locs ls hz hP hS hl)
theorem j_ixor {G : GT} {Γ : CT} {M : MI} {d MC MS : Nat} (B : Base G Γ M d MC MS) {cs ss pc : Nat} {L : List (Nat × Value)} {rest : List Value} {sv : SV} {vi : VI} {vl : VL} {x y : Int32} (hdg : decode M.2.1 pc = .ok (.ixor, 1))  (k : J G Γ cs ss (pc + 1) L (.int (x ^^^ y) :: rest) sv vi vl) : J G Γ cs ss pc L (.int y :: .int x :: rest) sv vi vl := by
  obtain ⟨p, e, R, s, m, args, below, meth, c, Qw⟩ := Γ
  intro H locs ls hz hP hS hl
  exact lv_ixor B.1 B.2.1 hdg  (k H locs ls hz hP hS hl)
theorem j_ladd {G : GT} {Γ : CT} {M : MI} {d MC MS : Nat} (B : Base G Γ M d MC MS) {cs ss pc : Nat} {L : List (Nat × Value)} {rest : List Value} {sv : SV} {vi : VI} {vl : VL} {x y : Int64} (hdg : decode M.2.1 pc = .ok (.ladd, 1))  (k : J G Γ cs ss (pc + 1) L (.long (x + y) :: rest) sv vi vl) : J G Γ cs ss pc L (.long y :: .long x :: rest) sv vi vl := by
  obtain ⟨p, e, R, s, m, args, below, meth, c, Qw⟩ := Γ
  intro H locs ls hz hP hS hl
  exact lv_ladd B.1 B.2.1 hdg  (k H locs ls hz hP hS hl)
theorem j_lsub {G : GT} {Γ : CT} {M : MI} {d MC MS : Nat} (B : Base G Γ M d MC MS) {cs ss pc : Nat} {L : List (Nat × Value)} {rest : List Value} {sv : SV} {vi : VI} {vl : VL} {x y : Int64} (hdg : decode M.2.1 pc = .ok (.lsub, 1))  (k : J G Γ cs ss (pc + 1) L (.long (x - y) :: rest) sv vi vl) : J G Γ cs ss pc L (.long y :: .long x :: rest) sv vi vl := by
  obtain ⟨p, e, R, s, m, args, below, meth, c, Qw⟩ := Γ
  intro H locs ls hz hP hS hl
  exact lv_lsub B.1 B.2.1 hdg  (k H locs ls hz hP hS hl)
theorem j_lmul {G : GT} {Γ : CT} {M : MI} {d MC MS : Nat} (B : Base G Γ M d MC MS) {cs ss pc : Nat} {L : List (Nat × Value)} {rest : List Value} {sv : SV} {vi : VI} {vl : VL} {x y : Int64} (hdg : decode M.2.1 pc = .ok (.lmul, 1))  (k : J G Γ cs ss (pc + 1) L (.long (x * y) :: rest) sv vi vl) : J G Γ cs ss pc L (.long y :: .long x :: rest) sv vi vl := by
  obtain ⟨p, e, R, s, m, args, below, meth, c, Qw⟩ := Γ
  intro H locs ls hz hP hS hl
  exact lv_lmul B.1 B.2.1 hdg  (k H locs ls hz hP hS hl)
theorem j_land {G : GT} {Γ : CT} {M : MI} {d MC MS : Nat} (B : Base G Γ M d MC MS) {cs ss pc : Nat} {L : List (Nat × Value)} {rest : List Value} {sv : SV} {vi : VI} {vl : VL} {x y : Int64} (hdg : decode M.2.1 pc = .ok (.land, 1))  (k : J G Γ cs ss (pc + 1) L (.long (x &&& y) :: rest) sv vi vl) : J G Γ cs ss pc L (.long y :: .long x :: rest) sv vi vl := by
  obtain ⟨p, e, R, s, m, args, below, meth, c, Qw⟩ := Γ
  intro H locs ls hz hP hS hl
  exact lv_land B.1 B.2.1 hdg  (k H locs ls hz hP hS hl)
theorem j_lor {G : GT} {Γ : CT} {M : MI} {d MC MS : Nat} (B : Base G Γ M d MC MS) {cs ss pc : Nat} {L : List (Nat × Value)} {rest : List Value} {sv : SV} {vi : VI} {vl : VL} {x y : Int64} (hdg : decode M.2.1 pc = .ok (.lor, 1))  (k : J G Γ cs ss (pc + 1) L (.long (x ||| y) :: rest) sv vi vl) : J G Γ cs ss pc L (.long y :: .long x :: rest) sv vi vl := by
  obtain ⟨p, e, R, s, m, args, below, meth, c, Qw⟩ := Γ
  intro H locs ls hz hP hS hl
  exact lv_lor B.1 B.2.1 hdg  (k H locs ls hz hP hS hl)
theorem j_idiv {G : GT} {Γ : CT} {M : MI} {d MC MS : Nat} (B : Base G Γ M d MC MS) {cs ss pc : Nat} {L : List (Nat × Value)} {rest : List Value} {sv : SV} {vi : VI} {vl : VL} {x y : Int32} (hdg : decode M.2.1 pc = .ok (.idiv, 1)) (hne : ¬ y = 0) (k : J G Γ cs ss (pc + 1) L (.int (x / y) :: rest) sv vi vl) : J G Γ cs ss pc L (.int y :: .int x :: rest) sv vi vl := by
  obtain ⟨p, e, R, s, m, args, below, meth, c, Qw⟩ := Γ
  intro H locs ls hz hP hS hl
  exact lv_idiv B.1 B.2.1 hdg hne (k H locs ls hz hP hS hl)
theorem j_ldiv {G : GT} {Γ : CT} {M : MI} {d MC MS : Nat} (B : Base G Γ M d MC MS) {cs ss pc : Nat} {L : List (Nat × Value)} {rest : List Value} {sv : SV} {vi : VI} {vl : VL} {x y : Int64} (hdg : decode M.2.1 pc = .ok (.ldiv, 1)) (hne : ¬ y = 0) (k : J G Γ cs ss (pc + 1) L (.long (x / y) :: rest) sv vi vl) : J G Γ cs ss pc L (.long y :: .long x :: rest) sv vi vl := by
  obtain ⟨p, e, R, s, m, args, below, meth, c, Qw⟩ := Γ
  intro H locs ls hz hP hS hl
  exact lv_ldiv B.1 B.2.1 hdg hne (k H locs ls hz hP hS hl)
theorem j_irem {G : GT} {Γ : CT} {M : MI} {d MC MS : Nat} (B : Base G Γ M d MC MS) {cs ss pc : Nat} {L : List (Nat × Value)} {rest : List Value} {sv : SV} {vi : VI} {vl : VL} {x y : Int32} (hdg : decode M.2.1 pc = .ok (.irem, 1)) (hne : ¬ y = 0) (k : J G Γ cs ss (pc + 1) L (.int (x - x / y * y) :: rest) sv vi vl) : J G Γ cs ss pc L (.int y :: .int x :: rest) sv vi vl := by
  obtain ⟨p, e, R, s, m, args, below, meth, c, Qw⟩ := Γ
  intro H locs ls hz hP hS hl
  exact lv_irem B.1 B.2.1 hdg hne (k H locs ls hz hP hS hl)
theorem j_lrem {G : GT} {Γ : CT} {M : MI} {d MC MS : Nat} (B : Base G Γ M d MC MS) {cs ss pc : Nat} {L : List (Nat × Value)} {rest : List Value} {sv : SV} {vi : VI} {vl : VL} {x y : Int64} (hdg : decode M.2.1 pc = .ok (.lrem, 1)) (hne : ¬ y = 0) (k : J G Γ cs ss (pc + 1) L (.long (x - x / y * y) :: rest) sv vi vl) : J G Γ cs ss pc L (.long y :: .long x :: rest) sv vi vl := by
  obtain ⟨p, e, R, s, m, args, below, meth, c, Qw⟩ := Γ
  intro H locs ls hz hP hS hl
  exact lv_lrem B.1 B.2.1 hdg hne (k H locs ls hz hP hS hl)
theorem j_ishl {G : GT} {Γ : CT} {M : MI} {d MC MS : Nat} (B : Base G Γ M d MC MS) {cs ss pc : Nat} {L : List (Nat × Value)} {rest : List Value} {sv : SV} {vi : VI} {vl : VL} {x y : Int32} (hdg : decode M.2.1 pc = .ok (.ishl, 1))  (k : J G Γ cs ss (pc + 1) L (.int (x <<< (y &&& 31)) :: rest) sv vi vl) : J G Γ cs ss pc L (.int y :: .int x :: rest) sv vi vl := by
  obtain ⟨p, e, R, s, m, args, below, meth, c, Qw⟩ := Γ
  intro H locs ls hz hP hS hl
  exact lv_ishl B.1 B.2.1 hdg  (k H locs ls hz hP hS hl)
theorem j_ishr {G : GT} {Γ : CT} {M : MI} {d MC MS : Nat} (B : Base G Γ M d MC MS) {cs ss pc : Nat} {L : List (Nat × Value)} {rest : List Value} {sv : SV} {vi : VI} {vl : VL} {x y : Int32} (hdg : decode M.2.1 pc = .ok (.ishr, 1))  (k : J G Γ cs ss (pc + 1) L (.int (x >>> (y &&& 31)) :: rest) sv vi vl) : J G Γ cs ss pc L (.int y :: .int x :: rest) sv vi vl := by
  obtain ⟨p, e, R, s, m, args, below, meth, c, Qw⟩ := Γ
  intro H locs ls hz hP hS hl
  exact lv_ishr B.1 B.2.1 hdg  (k H locs ls hz hP hS hl)
theorem j_ineg {G : GT} {Γ : CT} {M : MI} {d MC MS : Nat} (B : Base G Γ M d MC MS) {cs ss pc : Nat} {L : List (Nat × Value)} {rest : List Value} {sv : SV} {vi : VI} {vl : VL} {x : Int32} (hdg : decode M.2.1 pc = .ok (.ineg, 1))  (k : J G Γ cs ss (pc + 1) L (.int (-x) :: rest) sv vi vl) : J G Γ cs ss pc L (.int x :: rest) sv vi vl := by
  obtain ⟨p, e, R, s, m, args, below, meth, c, Qw⟩ := Γ
  intro H locs ls hz hP hS hl
  exact lv_ineg B.1 B.2.1 hdg  (k H locs ls hz hP hS hl)
theorem j_i2l {G : GT} {Γ : CT} {M : MI} {d MC MS : Nat} (B : Base G Γ M d MC MS) {cs ss pc : Nat} {L : List (Nat × Value)} {rest : List Value} {sv : SV} {vi : VI} {vl : VL} {x : Int32} (hdg : decode M.2.1 pc = .ok (.i2l, 1))  (k : J G Γ cs ss (pc + 1) L (.long x.toInt64 :: rest) sv vi vl) : J G Γ cs ss pc L (.int x :: rest) sv vi vl := by
  obtain ⟨p, e, R, s, m, args, below, meth, c, Qw⟩ := Γ
  intro H locs ls hz hP hS hl
  exact lv_i2l B.1 B.2.1 hdg rfl (k H locs ls hz hP hS hl)
theorem j_l2i {G : GT} {Γ : CT} {M : MI} {d MC MS : Nat} (B : Base G Γ M d MC MS) {cs ss pc : Nat} {L : List (Nat × Value)} {rest : List Value} {sv : SV} {vi : VI} {vl : VL} {x : Int64} (hdg : decode M.2.1 pc = .ok (.l2i, 1))  (k : J G Γ cs ss (pc + 1) L (.int x.toInt32 :: rest) sv vi vl) : J G Γ cs ss pc L (.long x :: rest) sv vi vl := by
  obtain ⟨p, e, R, s, m, args, below, meth, c, Qw⟩ := Γ
  intro H locs ls hz hP hS hl
  exact lv_l2i B.1 B.2.1 hdg rfl (k H locs ls hz hP hS hl)
theorem j_i2b {G : GT} {Γ : CT} {M : MI} {d MC MS : Nat} (B : Base G Γ M d MC MS) {cs ss pc : Nat} {L : List (Nat × Value)} {rest : List Value} {sv : SV} {vi : VI} {vl : VL} {x : Int32} (hdg : decode M.2.1 pc = .ok (.i2b, 1))  (k : J G Γ cs ss (pc + 1) L (.int x.toInt8.toInt32 :: rest) sv vi vl) : J G Γ cs ss pc L (.int x :: rest) sv vi vl := by
  obtain ⟨p, e, R, s, m, args, below, meth, c, Qw⟩ := Γ
  intro H locs ls hz hP hS hl
  exact lv_i2b B.1 B.2.1 hdg rfl (k H locs ls hz hP hS hl)
theorem j_i2s {G : GT} {Γ : CT} {M : MI} {d MC MS : Nat} (B : Base G Γ M d MC MS) {cs ss pc : Nat} {L : List (Nat × Value)} {rest : List Value} {sv : SV} {vi : VI} {vl : VL} {x : Int32} (hdg : decode M.2.1 pc = .ok (.i2s, 1))  (k : J G Γ cs ss (pc + 1) L (.int x.toInt16.toInt32 :: rest) sv vi vl) : J G Γ cs ss pc L (.int x :: rest) sv vi vl := by
  obtain ⟨p, e, R, s, m, args, below, meth, c, Qw⟩ := Γ
  intro H locs ls hz hP hS hl
  exact lv_i2s B.1 B.2.1 hdg rfl (k H locs ls hz hP hS hl)
theorem j_iushr {G : GT} {Γ : CT} {M : MI} {d MC MS : Nat} (B : Base G Γ M d MC MS) {cs ss pc : Nat} {L : List (Nat × Value)} {rest : List Value} {sv : SV} {vi : VI} {vl : VL} {x y : Int32} (hdg : decode M.2.1 pc = .ok (.iushr, 1))  (k : J G Γ cs ss (pc + 1) L (.int ((x.toUInt32 >>> (y.toUInt32 &&& Int32.toUInt32 31)).toInt32) :: rest) sv vi vl) : J G Γ cs ss pc L (.int y :: .int x :: rest) sv vi vl := by
  obtain ⟨p, e, R, s, m, args, below, meth, c, Qw⟩ := Γ
  intro H locs ls hz hP hS hl
  exact lv_iushr B.1 B.2.1 hdg rfl (k H locs ls hz hP hS hl)
theorem j_lshl {G : GT} {Γ : CT} {M : MI} {d MC MS : Nat} (B : Base G Γ M d MC MS) {cs ss pc : Nat} {L : List (Nat × Value)} {rest : List Value} {sv : SV} {vi : VI} {vl : VL} {x : Int64} {y : Int32} (hdg : decode M.2.1 pc = .ok (.lshl, 1))  (k : J G Γ cs ss (pc + 1) L (.long (x <<< (y.toInt64 &&& 63)) :: rest) sv vi vl) : J G Γ cs ss pc L (.int y :: .long x :: rest) sv vi vl := by
  obtain ⟨p, e, R, s, m, args, below, meth, c, Qw⟩ := Γ
  intro H locs ls hz hP hS hl
  exact lv_lshl B.1 B.2.1 hdg rfl (k H locs ls hz hP hS hl)
theorem j_lcmp {G : GT} {Γ : CT} {M : MI} {d MC MS : Nat} (B : Base G Γ M d MC MS) {cs ss pc : Nat} {L : List (Nat × Value)} {rest : List Value} {sv : SV} {vi : VI} {vl : VL} {x y : Int64} (hdg : decode M.2.1 pc = .ok (.lcmp, 1))  (k : J G Γ cs ss (pc + 1) L (.int (lg_cmp x y) :: rest) sv vi vl) : J G Γ cs ss pc L (.long y :: .long x :: rest) sv vi vl := by
  obtain ⟨p, e, R, s, m, args, below, meth, c, Qw⟩ := Γ
  intro H locs ls hz hP hS hl
  exact W.lcmp B.1 B.2.1 hdg  (k H locs ls hz hP hS hl)
theorem j_dup {G : GT} {Γ : CT} {M : MI} {d MC MS : Nat} (B : Base G Γ M d MC MS) {cs ss pc : Nat} {L : List (Nat × Value)} {rest : List Value} {sv : SV} {vi : VI} {vl : VL} {va : Value} (hdg : decode M.2.1 pc = .ok (.dup, 1)) (hva : va.category = 1) (k : J G Γ cs ss (pc + 1) L (va :: va :: rest) sv vi vl) : J G Γ cs ss pc L (va :: rest) sv vi vl := by
  obtain ⟨p, e, R, s, m, args, below, meth, c, Qw⟩ := Γ
  intro H locs ls hz hP hS hl
  exact lv_dup B.1 B.2.1 hdg hva (k H locs ls hz hP hS hl)
theorem j_pop {G : GT} {Γ : CT} {M : MI} {d MC MS : Nat} (B : Base G Γ M d MC MS) {cs ss pc : Nat} {L : List (Nat × Value)} {rest : List Value} {sv : SV} {vi : VI} {vl : VL} {va : Value} (hdg : decode M.2.1 pc = .ok (.pop, 1)) (hva : va.category = 1) (k : J G Γ cs ss (pc + 1) L (rest) sv vi vl) : J G Γ cs ss pc L (va :: rest) sv vi vl := by
  obtain ⟨p, e, R, s, m, args, below, meth, c, Qw⟩ := Γ
  intro H locs ls hz hP hS hl
  exact lv_pop B.1 B.2.1 hdg hva (k H locs ls hz hP hS hl)
theorem j_dup2 {G : GT} {Γ : CT} {M : MI} {d MC MS : Nat} (B : Base G Γ M d MC MS) {cs ss pc : Nat} {L : List (Nat × Value)} {rest : List Value} {sv : SV} {vi : VI} {vl : VL} {va vb : Value} (hdg : decode M.2.1 pc = .ok (.dup2, 1)) (hva : va.category = 1) (hvb : vb.category = 1) (k : J G Γ cs ss (pc + 1) L (vb :: va :: vb :: va :: rest) sv vi vl) : J G Γ cs ss pc L (vb :: va :: rest) sv vi vl := by
  obtain ⟨p, e, R, s, m, args, below, meth, c, Qw⟩ := Γ
  intro H locs ls hz hP hS hl
  exact lv_dup2_11 B.1 B.2.1 hdg hvb hva (k H locs ls hz hP hS hl)
theorem j_dup_x1 {G : GT} {Γ : CT} {M : MI} {d MC MS : Nat} (B : Base G Γ M d MC MS) {cs ss pc : Nat} {L : List (Nat × Value)} {rest : List Value} {sv : SV} {vi : VI} {vl : VL} {va vb : Value} (hdg : decode M.2.1 pc = .ok (.dup_x1, 1)) (hva : va.category = 1) (hvb : vb.category = 1) (k : J G Γ cs ss (pc + 1) L (vb :: va :: vb :: rest) sv vi vl) : J G Γ cs ss pc L (vb :: va :: rest) sv vi vl := by
  obtain ⟨p, e, R, s, m, args, below, meth, c, Qw⟩ := Γ
  intro H locs ls hz hP hS hl
  exact lv_dup_x1 B.1 B.2.1 hdg hvb hva (k H locs ls hz hP hS hl)
theorem j_if_eq {G : GT} {Γ : CT} {M : MI} {d MC MS : Nat} (B : Base G Γ M d MC MS) {cs ss pc : Nat} {L : List (Nat × Value)} {rest : List Value} {sv : SV} {vi : VI} {vl : VL} {x : Int32} {off : Int} {tgt : Nat} (hdg : decode M.2.1 pc = .ok (.ifCond .eq off, 3)) (ht : (pc : Int) + off = (tgt : Int)) (kt : x = 0 → J G Γ cs ss tgt L rest sv vi vl) (kf : ¬ x = 0 → J G Γ cs ss (pc + 3) L rest sv vi vl) : J G Γ cs ss pc L (.int x :: rest) sv vi vl := by
  obtain ⟨p, e, R, s, m, args, below, meth, c, Qw⟩ := Γ
  intro H locs ls hz hP hS hl
  exact lv_if_eq B.1 B.2.1 hdg ht (fun q => kt q H locs ls hz hP hS hl) (fun q => kf q H locs ls hz hP hS hl)
theorem j_icmp_eq {G : GT} {Γ : CT} {M : MI} {d MC MS : Nat} (B : Base G Γ M d MC MS) {cs ss pc : Nat} {L : List (Nat × Value)} {rest : List Value} {sv : SV} {vi : VI} {vl : VL} {x y : Int32} {off : Int} {tgt : Nat} (hdg : decode M.2.1 pc = .ok (.if_icmp .eq off, 3)) (ht : (pc : Int) + off = (tgt : Int)) (kt : x = y → J G Γ cs ss tgt L rest sv vi vl) (kf : ¬ x = y → J G Γ cs ss (pc + 3) L rest sv vi vl) : J G Γ cs ss pc L (.int y :: .int x :: rest) sv vi vl := by
  obtain ⟨p, e, R, s, m, args, below, meth, c, Qw⟩ := Γ
  intro H locs ls hz hP hS hl
  exact lv_icmp_eq B.1 B.2.1 hdg ht (fun q => kt q H locs ls hz hP hS hl) (fun q => kf q H locs ls hz hP hS hl)
theorem j_if_ne {G : GT} {Γ : CT} {M : MI} {d MC MS : Nat} (B : Base G Γ M d MC MS) {cs ss pc : Nat} {L : List (Nat × Value)} {rest : List Value} {sv : SV} {vi : VI} {vl : VL} {x : Int32} {off : Int} {tgt : Nat} (hdg : decode M.2.1 pc = .ok (.ifCond .ne off, 3)) (ht : (pc : Int) + off = (tgt : Int)) (kt : ¬ x = 0 → J G Γ cs ss tgt L rest sv vi vl) (kf : x = 0 → J G Γ cs ss (pc + 3) L rest sv vi vl) : J G Γ cs ss pc L (.int x :: rest) sv vi vl := by
  obtain ⟨p, e, R, s, m, args, below, meth, c, Qw⟩ := Γ
  intro H locs ls hz hP hS hl
  exact lv_if_ne B.1 B.2.1 hdg ht (fun q => kt q H locs ls hz hP hS hl) (fun q => kf q H locs ls hz hP hS hl)
theorem j_icmp_ne {G : GT} {Γ : CT} {M : MI} {d MC MS : Nat} (B : Base G Γ M d MC MS) {cs ss pc : Nat} {L : List (Nat × Value)} {rest : List Value} {sv : SV} {vi : VI} {vl : VL} {x y : Int32} {off : Int} {tgt : Nat} (hdg : decode M.2.1 pc = .ok (.if_icmp .ne off, 3)) (ht : (pc : Int) + off = (tgt : Int)) (kt : ¬ x = y → J G Γ cs ss tgt L rest sv vi vl) (kf : x = y → J G Γ cs ss (pc + 3) L rest sv vi vl) : J G Γ cs ss pc L (.int y :: .int x :: rest) sv vi vl := by
  obtain ⟨p, e, R, s, m, args, below, meth, c, Qw⟩ := Γ
  intro H locs ls hz hP hS hl
  exact lv_icmp_ne B.1 B.2.1 hdg ht (fun q => kt q H locs ls hz hP hS hl) (fun q => kf q H locs ls hz hP hS hl)
theorem j_if_lt {G : GT} {Γ : CT} {M : MI} {d MC MS : Nat} (B : Base G Γ M d MC MS) {cs ss pc : Nat} {L : List (Nat × Value)} {rest : List Value} {sv : SV} {vi : VI} {vl : VL} {x : Int32} {off : Int} {tgt : Nat} (hdg : decode M.2.1 pc = .ok (.ifCond .lt off, 3)) (ht : (pc : Int) + off = (tgt : Int)) (kt : x < 0 → J G Γ cs ss tgt L rest sv vi vl) (kf : ¬ x < 0 → J G Γ cs ss (pc + 3) L rest sv vi vl) : J G Γ cs ss pc L (.int x :: rest) sv vi vl := by
  obtain ⟨p, e, R, s, m, args, below, meth, c, Qw⟩ := Γ
  intro H locs ls hz hP hS hl
  exact lv_if_lt B.1 B.2.1 hdg ht (fun q => kt q H locs ls hz hP hS hl) (fun q => kf q H locs ls hz hP hS hl)
theorem j_icmp_lt {G : GT} {Γ : CT} {M : MI} {d MC MS : Nat} (B : Base G Γ M d MC MS) {cs ss pc : Nat} {L : List (Nat × Value)} {rest : List Value} {sv : SV} {vi : VI} {vl : VL} {x y : Int32} {off : Int} {tgt : Nat} (hdg : decode M.2.1 pc = .ok (.if_icmp .lt off, 3)) (ht : (pc : Int) + off = (tgt : Int)) (kt : x < y → J G Γ cs ss tgt L rest sv vi vl) (kf : ¬ x < y → J G Γ cs ss (pc + 3) L rest sv vi vl) : J G Γ cs ss pc L (.int y :: .int x :: rest) sv vi vl := by
  obtain ⟨p, e, R, s, m, args, below, meth, c, Qw⟩ := Γ
  intro H locs ls hz hP hS hl
  exact lv_icmp_lt B.1 B.2.1 hdg ht (fun q => kt q H locs ls hz hP hS hl) (fun q => kf q H locs ls hz hP hS hl)
theorem j_if_ge {G : GT} {Γ : CT} {M : MI} {d MC MS : Nat} (B : Base G Γ M d MC MS) {cs ss pc : Nat} {L : List (Nat × Value)} {rest : List Value} {sv : SV} {vi : VI} {vl : VL} {x : Int32} {off : Int} {tgt : Nat} (hdg : decode M.2.1 pc = .ok (.ifCond .ge off, 3)) (ht : (pc : Int) + off = (tgt : Int)) (kt : 0 ≤ x → J G Γ cs ss tgt L rest sv vi vl) (kf : ¬ 0 ≤ x → J G Γ cs ss (pc + 3) L rest sv vi vl) : J G Γ cs ss pc L (.int x :: rest) sv vi vl := by
  obtain ⟨p, e, R, s, m, args, below, meth, c, Qw⟩ := Γ
  intro H locs ls hz hP hS hl
  exact lv_if_ge B.1 B.2.1 hdg ht (fun q => kt q H locs ls hz hP hS hl) (fun q => kf q H locs ls hz hP hS hl)
theorem j_icmp_ge {G : GT} {Γ : CT} {M : MI} {d MC MS : Nat} (B : Base G Γ M d MC MS) {cs ss pc : Nat} {L : List (Nat × Value)} {rest : List Value} {sv : SV} {vi : VI} {vl : VL} {x y : Int32} {off : Int} {tgt : Nat} (hdg : decode M.2.1 pc = .ok (.if_icmp .ge off, 3)) (ht : (pc : Int) + off = (tgt : Int)) (kt : y ≤ x → J G Γ cs ss tgt L rest sv vi vl) (kf : ¬ y ≤ x → J G Γ cs ss (pc + 3) L rest sv vi vl) : J G Γ cs ss pc L (.int y :: .int x :: rest) sv vi vl := by
  obtain ⟨p, e, R, s, m, args, below, meth, c, Qw⟩ := Γ
  intro H locs ls hz hP hS hl
  exact lv_icmp_ge B.1 B.2.1 hdg ht (fun q => kt q H locs ls hz hP hS hl) (fun q => kf q H locs ls hz hP hS hl)
theorem j_if_gt {G : GT} {Γ : CT} {M : MI} {d MC MS : Nat} (B : Base G Γ M d MC MS) {cs ss pc : Nat} {L : List (Nat × Value)} {rest : List Value} {sv : SV} {vi : VI} {vl : VL} {x : Int32} {off : Int} {tgt : Nat} (hdg : decode M.2.1 pc = .ok (.ifCond .gt off, 3)) (ht : (pc : Int) + off = (tgt : Int)) (kt : 0 < x → J G Γ cs ss tgt L rest sv vi vl) (kf : ¬ 0 < x → J G Γ cs ss (pc + 3) L rest sv vi vl) : J G Γ cs ss pc L (.int x :: rest) sv vi vl := by
  obtain ⟨p, e, R, s, m, args, below, meth, c, Qw⟩ := Γ
  intro H locs ls hz hP hS hl
  exact lv_if_gt B.1 B.2.1 hdg ht (fun q => kt q H locs ls hz hP hS hl) (fun q => kf q H locs ls hz hP hS hl)
theorem j_icmp_gt {G : GT} {Γ : CT} {M : MI} {d MC MS : Nat} (B : Base G Γ M d MC MS) {cs ss pc : Nat} {L : List (Nat × Value)} {rest : List Value} {sv : SV} {vi : VI} {vl : VL} {x y : Int32} {off : Int} {tgt : Nat} (hdg : decode M.2.1 pc = .ok (.if_icmp .gt off, 3)) (ht : (pc : Int) + off = (tgt : Int)) (kt : y < x → J G Γ cs ss tgt L rest sv vi vl) (kf : ¬ y < x → J G Γ cs ss (pc + 3) L rest sv vi vl) : J G Γ cs ss pc L (.int y :: .int x :: rest) sv vi vl := by
  obtain ⟨p, e, R, s, m, args, below, meth, c, Qw⟩ := Γ
  intro H locs ls hz hP hS hl
  exact lv_icmp_gt B.1 B.2.1 hdg ht (fun q => kt q H locs ls hz hP hS hl) (fun q => kf q H locs ls hz hP hS hl)
theorem j_if_le {G : GT} {Γ : CT} {M : MI} {d MC MS : Nat} (B : Base G Γ M d MC MS) {cs ss pc : Nat} {L : List (Nat × Value)} {rest : List Value} {sv : SV} {vi : VI} {vl : VL} {x : Int32} {off : Int} {tgt : Nat} (hdg : decode M.2.1 pc = .ok (.ifCond .le off, 3)) (ht : (pc : Int) + off = (tgt : Int)) (kt : x ≤ 0 → J G Γ cs ss tgt L rest sv vi vl) (kf : ¬ x ≤ 0 → J G Γ cs ss (pc + 3) L rest sv vi vl) : J G Γ cs ss pc L (.int x :: rest) sv vi vl := by
  obtain ⟨p, e, R, s, m, args, below, meth, c, Qw⟩ := Γ
  intro H locs ls hz hP hS hl
  exact lv_if_le B.1 B.2.1 hdg ht (fun q => kt q H locs ls hz hP hS hl) (fun q => kf q H locs ls hz hP hS hl)
theorem j_icmp_le {G : GT} {Γ : CT} {M : MI} {d MC MS : Nat} (B : Base G Γ M d MC MS) {cs ss pc : Nat} {L : List (Nat × Value)} {rest : List Value} {sv : SV} {vi : VI} {vl : VL} {x y : Int32} {off : Int} {tgt : Nat} (hdg : decode M.2.1 pc = .ok (.if_icmp .le off, 3)) (ht : (pc : Int) + off = (tgt : Int)) (kt : x ≤ y → J G Γ cs ss tgt L rest sv vi vl) (kf : ¬ x ≤ y → J G Γ cs ss (pc + 3) L rest sv vi vl) : J G Γ cs ss pc L (.int y :: .int x :: rest) sv vi vl := by
  obtain ⟨p, e, R, s, m, args, below, meth, c, Qw⟩ := Γ
  intro H locs ls hz hP hS hl
  exact lv_icmp_le B.1 B.2.1 hdg ht (fun q => kt q H locs ls hz hP hS hl) (fun q => kf q H locs ls hz hP hS hl)
theorem j_goto {G : GT} {Γ : CT} {M : MI} {d MC MS : Nat} (B : Base G Γ M d MC MS) {cs ss pc : Nat} {L : List (Nat × Value)} {rest : List Value} {sv : SV} {vi : VI} {vl : VL} {off : Int} {tgt : Nat} (hdg : decode M.2.1 pc = .ok (.goto off, 3)) (ht : (pc : Int) + off = (tgt : Int)) (k : J G Γ cs ss tgt L rest sv vi vl) : J G Γ cs ss pc L (rest) sv vi vl := by
  obtain ⟨p, e, R, s, m, args, below, meth, c, Qw⟩ := Γ
  intro H locs ls hz hP hS hl
  exact lv_goto B.1 B.2.1 hdg ht (k H locs ls hz hP hS hl)
theorem j_ifnonnull {G : GT} {Γ : CT} {M : MI} {d MC MS : Nat} (B : Base G Γ M d MC MS) {cs ss pc : Nat} {L : List (Nat × Value)} {rest : List Value} {sv : SV} {vi : VI} {vl : VL} {x : Nat} {off : Int} {tgt : Nat} (hdg : decode M.2.1 pc = .ok (.ifnonnull off, 3)) (ht : (pc : Int) + off = (tgt : Int)) (k : J G Γ cs ss tgt L rest sv vi vl) : J G Γ cs ss pc L (.ref x :: rest) sv vi vl := by
  obtain ⟨p, e, R, s, m, args, below, meth, c, Qw⟩ := Γ
  intro H locs ls hz hP hS hl
  exact lv_ifnonnull B.1 B.2.1 hdg ht (k H locs ls hz hP hS hl)
theorem j_ifnull {G : GT} {Γ : CT} {M : MI} {d MC MS : Nat} (B : Base G Γ M d MC MS) {cs ss pc : Nat} {L : List (Nat × Value)} {rest : List Value} {sv : SV} {vi : VI} {vl : VL} {x : Nat} {off : Int} (hdg : decode M.2.1 pc = .ok (.ifnull off, 3))  (k : J G Γ cs ss (pc + 3) L rest sv vi vl) : J G Γ cs ss pc L (.ref x :: rest) sv vi vl := by
  obtain ⟨p, e, R, s, m, args, below, meth, c, Qw⟩ := Γ
  intro H locs ls hz hP hS hl
  exact lv_ifnull B.1 B.2.1 hdg  (k H locs ls hz hP hS hl)
theorem j_ifnullN {G : GT} {Γ : CT} {M : MI} {d MC MS : Nat} (B : Base G Γ M d MC MS) {cs ss pc : Nat} {L : List (Nat × Value)} {rest : List Value} {sv : SV} {vi : VI} {vl : VL} {off : Int} {tgt : Nat} (hdg : decode M.2.1 pc = .ok (.ifnull off, 3)) (ht : (pc : Int) + off = (tgt : Int)) (k : J G Γ cs ss tgt L rest sv vi vl) : J G Γ cs ss pc L (.null :: rest) sv vi vl := by
  obtain ⟨p, e, R, s, m, args, below, meth, c, Qw⟩ := Γ
  intro H locs ls hz hP hS hl
  exact lv_ifnullN B.1 B.2.1 hdg ht (k H locs ls hz hP hS hl)
theorem j_ifnonnullN {G : GT} {Γ : CT} {M : MI} {d MC MS : Nat} (B : Base G Γ M d MC MS) {cs ss pc : Nat} {L : List (Nat × Value)} {rest : List Value} {sv : SV} {vi : VI} {vl : VL} {off : Int} (hdg : decode M.2.1 pc = .ok (.ifnonnull off, 3))  (k : J G Γ cs ss (pc + 3) L rest sv vi vl) : J G Γ cs ss pc L (.null :: rest) sv vi vl := by
  obtain ⟨p, e, R, s, m, args, below, meth, c, Qw⟩ := Γ
  intro H locs ls hz hP hS hl
  exact lv_ifnonnullN B.1 B.2.1 hdg  (k H locs ls hz hP hS hl)
theorem j_lookup {G : GT} {Γ : CT} {M : MI} {d MC MS : Nat} (B : Base G Γ M d MC MS) {cs ss pc : Nat} {L : List (Nat × Value)} {rest : List Value} {sv : SV} {vi : VI} {vl : VL} {dflt : Int} {ps : Array (Int × Int)} {len : Nat} {x : Int32} {off : Int} {tgt : Nat} (hdg : decode M.2.1 pc = .ok (.lookupswitch dflt ps, len)) (hp : (ps.toList.zip (ps.toList.drop 1)).all (fun (a, next) => a.1 < next.1) = true) (ho : Op.lookupswitch.offset ps.toList dflt x.toInt = off) (ht : (pc : Int) + off = (tgt : Int)) (k : J G Γ cs ss tgt L rest sv vi vl) : J G Γ cs ss pc L (.int x :: rest) sv vi vl := by
  obtain ⟨p, e, R, s, m, args, below, meth, c, Qw⟩ := Γ
  intro H locs ls hz hP hS hl
  exact lv_lookup B.1 B.2.1 hdg hp ho ht (k H locs ls hz hP hS hl)
theorem j_tableOut {G : GT} {Γ : CT} {M : MI} {d MC MS : Nat} (B : Base G Γ M d MC MS) {cs ss pc : Nat} {L : List (Nat × Value)} {rest : List Value} {sv : SV} {vi : VI} {vl : VL} {dflt lo hi : Int} {offs : Array Int} {len : Nat} {x : Int32} {tgt : Nat} (hdg : decode M.2.1 pc = .ok (.tableswitch dflt lo hi offs, len)) (h : x.toInt < lo ∨ hi < x.toInt) (ht : (pc : Int) + dflt = (tgt : Int)) (k : J G Γ cs ss tgt L rest sv vi vl) : J G Γ cs ss pc L (.int x :: rest) sv vi vl := by
  obtain ⟨p, e, R, s, m, args, below, meth, c, Qw⟩ := Γ
  intro H locs ls hz hP hS hl
  exact lv_tableOut B.1 B.2.1 hdg h ht (k H locs ls hz hP hS hl)
theorem j_tableIn {G : GT} {Γ : CT} {M : MI} {d MC MS : Nat} (B : Base G Γ M d MC MS) {cs ss pc : Nat} {L : List (Nat × Value)} {rest : List Value} {sv : SV} {vi : VI} {vl : VL} {dflt lo hi : Int} {offs : Array Int} {len : Nat} {x : Int32} {off : Int} {tgt : Nat} (hdg : decode M.2.1 pc = .ok (.tableswitch dflt lo hi offs, len)) (h1 : ¬ x.toInt < lo) (h2 : ¬ hi < x.toInt) (ho : offs[(x.toInt - lo).toNat]? = some off) (ht : (pc : Int) + off = (tgt : Int)) (k : J G Γ cs ss tgt L rest sv vi vl) : J G Γ cs ss pc L (.int x :: rest) sv vi vl := by
  obtain ⟨p, e, R, s, m, args, below, meth, c, Qw⟩ := Γ
  intro H locs ls hz hP hS hl
  exact lv_tableIn B.1 B.2.1 hdg h1 h2 ho ht (k H locs ls hz hP hS hl)
theorem j_locals {G : GT} {Γ : CT} {cs ss pc : Nat} {L L' : List (Nat × Value)} {st : List Value} {sv : SV} {vi : VI} {vl : VL} (ks : List Nat) (hL : lv_pick L ks = L') (k : J G Γ cs ss pc L' st sv vi vl) : J G Γ cs ss pc L st sv vi vl := by
  obtain ⟨p, e, R, s, m, args, below, meth, c, Qw⟩ := Γ
  intro H locs ls hz hP hS hl
  exact k H locs ls hz hP hS (lv_sub hl ks hL)
theorem j_widen {G : GT} {Γ : CT} {cs ss pc : Nat} {L : List (Nat × Value)} {st : List Value} {sv : SV} {vi : VI} {vl : VL} (cs' ss' : Nat) (h1 : cs ≤ cs') (h2 : ss ≤ ss') (k : J G Γ cs' ss' pc L st sv vi vl) : J G Γ cs ss pc L st sv vi vl := by
  obtain ⟨p, e, R, s, m, args, below, meth, c, Qw⟩ := Γ
  intro H locs ls hz hP hS hl
  exact W.widen h1 h2 (k H locs ls hz hP hS hl)
theorem j_ldcw {G : GT} {Γ : CT} {M : MI} {d MC MS : Nat} (B : Base G Γ M d MC MS) {cs ss pc : Nat} {L : List (Nat × Value)} {rest : List Value} {sv : SV} {vi : VI} {vl : VL} {index : Nat} {v : Int32} (hc : Cond.constant M.1.cls index v ∈ gtb) (hdg : decode M.2.1 pc = .ok (.ldc_w index, 3)) (k : J G Γ cs ss (pc + 3) L (.int v :: rest) sv vi vl) : J G Γ cs ss pc L rest sv vi vl := by
  obtain ⟨p, e, R, s, m, args, below, meth, c, Qw⟩ := Γ
  intro H locs ls hz hP hS hl
  exact lv_ldcw B.1 B.2.1 B.2.2.2.2.1 (B.2.2.2.2.2.1 _ hc) hdg (k H locs ls hz hP hS hl)
theorem j_ldc {G : GT} {Γ : CT} {M : MI} {d MC MS : Nat} (B : Base G Γ M d MC MS) {cs ss pc : Nat} {L : List (Nat × Value)} {rest : List Value} {sv : SV} {vi : VI} {vl : VL} {index : Nat} {v : Int32} (hc : Cond.constant M.1.cls index v ∈ gtb) (hdg : decode M.2.1 pc = .ok (.ldc index, 2)) (k : J G Γ cs ss (pc + 2) L (.int v :: rest) sv vi vl) : J G Γ cs ss pc L rest sv vi vl := by
  obtain ⟨p, e, R, s, m, args, below, meth, c, Qw⟩ := Γ
  intro H locs ls hz hP hS hl
  exact lv_ldc B.1 B.2.1 B.2.2.2.2.1 (B.2.2.2.2.2.1 _ hc) hdg (k H locs ls hz hP hS hl)
theorem j_ldc2 {G : GT} {Γ : CT} {M : MI} {d MC MS : Nat} (B : Base G Γ M d MC MS) {cs ss pc : Nat} {L : List (Nat × Value)} {rest : List Value} {sv : SV} {vi : VI} {vl : VL} {index : Nat} {v : Int64} (hc : Cond.constantLong M.1.cls index v ∈ gtb) (hdg : decode M.2.1 pc = .ok (.ldc2_w index, 3)) (k : J G Γ cs ss (pc + 3) L (.long v :: rest) sv vi vl) : J G Γ cs ss pc L rest sv vi vl := by
  obtain ⟨p, e, R, s, m, args, below, meth, c, Qw⟩ := Γ
  intro H locs ls hz hP hS hl
  exact lv_ldc2 B.1 B.2.1 B.2.2.2.2.1 (B.2.2.2.2.2.1 _ hc) hdg (k H locs ls hz hP hS hl)
