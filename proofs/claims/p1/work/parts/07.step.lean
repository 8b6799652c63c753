/-! each instruction: the pure machine's step is the real machine's -/
section EXT
variable {p : Program} {l : Launch} {e : Env} {R : Room} {s : State} {m : MethodId} {args : Array Value} {below : List Frame} {meth : Method} {c : Code} {Q : State → Prop} {D : va_G} {cI cZ : ClassId} {sa : Nat → Nat} {A : Nat → Prop} {mi mc ms n0 : Nat} {w9 : ex_W} {pc : Nat} {L : ex_L} {st : List Value} {w : ex_W} {X : Option (List Int32)} {pc1 : Nat} {L1 : ex_L} {st1 : List Value} {w1 : ex_W}
theorem ex_i_aload_n {k : Fin 4} (F : ex_F mi p s m meth c args) (hd : decode (kC mi) pc = .ok (.aload_n k, 1)) (ha : ex_do X mi pc (.aload_n k) L st w = some (.inl (pc1, L1, st1, w1))) (G1 : ex_G p l e R s m args below meth c Q D cI cZ sa A mi mc ms n0 w9 pc1 L1 st1 w1) : ex_G p l e R s m args below meth c Q D cI cZ sa A mi mc ms n0 w9 pc L st w := by
  obtain ⟨hx, hb, hml, hr, hlk, hown, hts, hin⟩ := F
  exact ex_ldA_s ha G1 fun x H locs cells slots ls rest h1 h2 => lv_aload_n hx hb hd rfl h1 h2
theorem ex_i_aload {k : Nat} (F : ex_F mi p s m meth c args) (hd : decode (kC mi) pc = .ok (.aload k, 2)) (ha : ex_do X mi pc (.aload k) L st w = some (.inl (pc1, L1, st1, w1))) (G1 : ex_G p l e R s m args below meth c Q D cI cZ sa A mi mc ms n0 w9 pc1 L1 st1 w1) : ex_G p l e R s m args below meth c Q D cI cZ sa A mi mc ms n0 w9 pc L st w := by
  obtain ⟨hx, hb, hml, hr, hlk, hown, hts, hin⟩ := F
  exact ex_ldA_s ha G1 fun x H locs cells slots ls rest h1 h2 => lv_aload hx hb hd h1 h2
theorem ex_i_iload_n {k : Fin 4} (F : ex_F mi p s m meth c args) (hd : decode (kC mi) pc = .ok (.iload_n k, 1)) (ha : ex_do X mi pc (.iload_n k) L st w = some (.inl (pc1, L1, st1, w1))) (G1 : ex_G p l e R s m args below meth c Q D cI cZ sa A mi mc ms n0 w9 pc1 L1 st1 w1) : ex_G p l e R s m args below meth c Q D cI cZ sa A mi mc ms n0 w9 pc L st w := by
  obtain ⟨hx, hb, hml, hr, hlk, hown, hts, hin⟩ := F
  exact ex_ldI_s ha G1 fun x H locs cells slots ls rest h1 h2 => lv_iload_n hx hb hd rfl h1 h2
theorem ex_i_iload {k : Nat} (F : ex_F mi p s m meth c args) (hd : decode (kC mi) pc = .ok (.iload k, 2)) (ha : ex_do X mi pc (.iload k) L st w = some (.inl (pc1, L1, st1, w1))) (G1 : ex_G p l e R s m args below meth c Q D cI cZ sa A mi mc ms n0 w9 pc1 L1 st1 w1) : ex_G p l e R s m args below meth c Q D cI cZ sa A mi mc ms n0 w9 pc L st w := by
  obtain ⟨hx, hb, hml, hr, hlk, hown, hts, hin⟩ := F
  exact ex_ldI_s ha G1 fun x H locs cells slots ls rest h1 h2 => lv_iload hx hb hd h1 h2
theorem ex_i_lload_n {k : Fin 4} (F : ex_F mi p s m meth c args) (hd : decode (kC mi) pc = .ok (.lload_n k, 1)) (ha : ex_do X mi pc (.lload_n k) L st w = some (.inl (pc1, L1, st1, w1))) (G1 : ex_G p l e R s m args below meth c Q D cI cZ sa A mi mc ms n0 w9 pc1 L1 st1 w1) : ex_G p l e R s m args below meth c Q D cI cZ sa A mi mc ms n0 w9 pc L st w := by
  obtain ⟨hx, hb, hml, hr, hlk, hown, hts, hin⟩ := F
  exact ex_ldJ_s ha G1 fun x H locs cells slots ls rest h1 h2 => lv_lload_n hx hb hd rfl h1 h2
theorem ex_i_lload {k : Nat} (F : ex_F mi p s m meth c args) (hd : decode (kC mi) pc = .ok (.lload k, 2)) (ha : ex_do X mi pc (.lload k) L st w = some (.inl (pc1, L1, st1, w1))) (G1 : ex_G p l e R s m args below meth c Q D cI cZ sa A mi mc ms n0 w9 pc1 L1 st1 w1) : ex_G p l e R s m args below meth c Q D cI cZ sa A mi mc ms n0 w9 pc L st w := by
  obtain ⟨hx, hb, hml, hr, hlk, hown, hts, hin⟩ := F
  exact ex_ldJ_s ha G1 fun x H locs cells slots ls rest h1 h2 => lv_lload hx hb hd h1 h2
theorem ex_i_astore_n {k : Fin 4} (F : ex_F mi p s m meth c args) (hd : decode (kC mi) pc = .ok (.astore_n k, 1)) (ha : ex_do X mi pc (.astore_n k) L st w = some (.inl (pc1, L1, st1, w1))) (G1 : ex_G p l e R s m args below meth c Q D cI cZ sa A mi mc ms n0 w9 pc1 L1 st1 w1) : ex_G p l e R s m args below meth c Q D cI cZ sa A mi mc ms n0 w9 pc L st w := by
  obtain ⟨hx, hb, hml, hr, hlk, hown, hts, hin⟩ := F
  exact ex_stA_s ha G1 fun x lv H locs cells slots ls rest h1 h2 h3 => lv_astore_n hx hb hd rfl h1 h2 rfl h3
theorem ex_i_astore {k : Nat} (F : ex_F mi p s m meth c args) (hd : decode (kC mi) pc = .ok (.astore k, 2)) (ha : ex_do X mi pc (.astore k) L st w = some (.inl (pc1, L1, st1, w1))) (G1 : ex_G p l e R s m args below meth c Q D cI cZ sa A mi mc ms n0 w9 pc1 L1 st1 w1) : ex_G p l e R s m args below meth c Q D cI cZ sa A mi mc ms n0 w9 pc L st w := by
  obtain ⟨hx, hb, hml, hr, hlk, hown, hts, hin⟩ := F
  exact ex_stA_s ha G1 fun x lv H locs cells slots ls rest h1 h2 h3 => lv_astore hx hb hd h1 h2 rfl h3
theorem ex_i_istore_n {k : Fin 4} (F : ex_F mi p s m meth c args) (hd : decode (kC mi) pc = .ok (.istore_n k, 1)) (ha : ex_do X mi pc (.istore_n k) L st w = some (.inl (pc1, L1, st1, w1))) (G1 : ex_G p l e R s m args below meth c Q D cI cZ sa A mi mc ms n0 w9 pc1 L1 st1 w1) : ex_G p l e R s m args below meth c Q D cI cZ sa A mi mc ms n0 w9 pc L st w := by
  obtain ⟨hx, hb, hml, hr, hlk, hown, hts, hin⟩ := F
  exact ex_stI_s ha G1 fun x lv H locs cells slots ls rest h1 h2 h3 => lv_istore_n hx hb hd rfl h1 h2 rfl h3
theorem ex_i_istore {k : Nat} (F : ex_F mi p s m meth c args) (hd : decode (kC mi) pc = .ok (.istore k, 2)) (ha : ex_do X mi pc (.istore k) L st w = some (.inl (pc1, L1, st1, w1))) (G1 : ex_G p l e R s m args below meth c Q D cI cZ sa A mi mc ms n0 w9 pc1 L1 st1 w1) : ex_G p l e R s m args below meth c Q D cI cZ sa A mi mc ms n0 w9 pc L st w := by
  obtain ⟨hx, hb, hml, hr, hlk, hown, hts, hin⟩ := F
  exact ex_stI_s ha G1 fun x lv H locs cells slots ls rest h1 h2 h3 => lv_istore hx hb hd h1 h2 rfl h3
theorem ex_i_lstore_n {k : Fin 4} (F : ex_F mi p s m meth c args) (hd : decode (kC mi) pc = .ok (.lstore_n k, 1)) (ha : ex_do X mi pc (.lstore_n k) L st w = some (.inl (pc1, L1, st1, w1))) (G1 : ex_G p l e R s m args below meth c Q D cI cZ sa A mi mc ms n0 w9 pc1 L1 st1 w1) : ex_G p l e R s m args below meth c Q D cI cZ sa A mi mc ms n0 w9 pc L st w := by
  obtain ⟨hx, hb, hml, hr, hlk, hown, hts, hin⟩ := F
  exact ex_stJ_s ha G1 fun x lv H locs cells slots ls rest h1 h2 h3 => lv_lstore_n hx hb hd rfl h1 h2 rfl h3
theorem ex_i_lstore {k : Nat} (F : ex_F mi p s m meth c args) (hd : decode (kC mi) pc = .ok (.lstore k, 2)) (ha : ex_do X mi pc (.lstore k) L st w = some (.inl (pc1, L1, st1, w1))) (G1 : ex_G p l e R s m args below meth c Q D cI cZ sa A mi mc ms n0 w9 pc1 L1 st1 w1) : ex_G p l e R s m args below meth c Q D cI cZ sa A mi mc ms n0 w9 pc L st w := by
  obtain ⟨hx, hb, hml, hr, hlk, hown, hts, hin⟩ := F
  exact ex_stJ_s ha G1 fun x lv H locs cells slots ls rest h1 h2 h3 => lv_lstore hx hb hd h1 h2 rfl h3
theorem ex_i_iconst {n : Int} (F : ex_F mi p s m meth c args) (hd : decode (kC mi) pc = .ok (.iconst n, 1)) (ha : ex_do X mi pc (.iconst n) L st w = some (.inl (pc1, L1, st1, w1))) (G1 : ex_G p l e R s m args below meth c Q D cI cZ sa A mi mc ms n0 w9 pc1 L1 st1 w1) : ex_G p l e R s m args below meth c Q D cI cZ sa A mi mc ms n0 w9 pc L st w := by
  obtain ⟨hx, hb, hml, hr, hlk, hown, hts, hin⟩ := F
  cases ha
  exact ex_top_s G1 (fun n h => List.forall_mem_cons.mpr ⟨trivial, h⟩) fun ad H locs cells slots ls h => lv_iconst hx hb hd rfl h
theorem ex_i_bipush {n : Int} (F : ex_F mi p s m meth c args) (hd : decode (kC mi) pc = .ok (.bipush n, 2)) (ha : ex_do X mi pc (.bipush n) L st w = some (.inl (pc1, L1, st1, w1))) (G1 : ex_G p l e R s m args below meth c Q D cI cZ sa A mi mc ms n0 w9 pc1 L1 st1 w1) : ex_G p l e R s m args below meth c Q D cI cZ sa A mi mc ms n0 w9 pc L st w := by
  obtain ⟨hx, hb, hml, hr, hlk, hown, hts, hin⟩ := F
  cases ha
  exact ex_top_s G1 (fun n h => List.forall_mem_cons.mpr ⟨trivial, h⟩) fun ad H locs cells slots ls h => lv_bipush hx hb hd rfl h
theorem ex_i_sipush {n : Int} (F : ex_F mi p s m meth c args) (hd : decode (kC mi) pc = .ok (.sipush n, 3)) (ha : ex_do X mi pc (.sipush n) L st w = some (.inl (pc1, L1, st1, w1))) (G1 : ex_G p l e R s m args below meth c Q D cI cZ sa A mi mc ms n0 w9 pc1 L1 st1 w1) : ex_G p l e R s m args below meth c Q D cI cZ sa A mi mc ms n0 w9 pc L st w := by
  obtain ⟨hx, hb, hml, hr, hlk, hown, hts, hin⟩ := F
  cases ha
  exact ex_top_s G1 (fun n h => List.forall_mem_cons.mpr ⟨trivial, h⟩) fun ad H locs cells slots ls h => lv_sipush hx hb hd rfl h
theorem ex_i_lconst {n : Fin 2} (F : ex_F mi p s m meth c args) (hd : decode (kC mi) pc = .ok (.lconst n, 1)) (ha : ex_do X mi pc (.lconst n) L st w = some (.inl (pc1, L1, st1, w1))) (G1 : ex_G p l e R s m args below meth c Q D cI cZ sa A mi mc ms n0 w9 pc1 L1 st1 w1) : ex_G p l e R s m args below meth c Q D cI cZ sa A mi mc ms n0 w9 pc L st w := by
  obtain ⟨hx, hb, hml, hr, hlk, hown, hts, hin⟩ := F
  cases ha
  exact ex_top_s G1 (fun n h => List.forall_mem_cons.mpr ⟨trivial, h⟩) fun ad H locs cells slots ls h => lv_lconst hx hb hd rfl h
theorem ex_i_iadd (F : ex_F mi p s m meth c args) (hd : decode (kC mi) pc = .ok (.iadd, 1)) (ha : ex_do X mi pc (.iadd) L st w = some (.inl (pc1, L1, st1, w1))) (G1 : ex_G p l e R s m args below meth c Q D cI cZ sa A mi mc ms n0 w9 pc1 L1 st1 w1) : ex_G p l e R s m args below meth c Q D cI cZ sa A mi mc ms n0 w9 pc L st w := by
  obtain ⟨hx, hb, hml, hr, hlk, hown, hts, hin⟩ := F
  simp only [ex_do, ex_ii] at ha
  split at ha
  next x y r =>
    cases ha
    exact ex_top_s G1 (fun n h => List.forall_mem_cons.mpr ⟨trivial, (List.forall_mem_cons.mp (List.forall_mem_cons.mp h).2).2⟩) fun ad H locs cells slots ls h => lv_iadd hx hb hd h
  next => cases ha
theorem ex_i_isub (F : ex_F mi p s m meth c args) (hd : decode (kC mi) pc = .ok (.isub, 1)) (ha : ex_do X mi pc (.isub) L st w = some (.inl (pc1, L1, st1, w1))) (G1 : ex_G p l e R s m args below meth c Q D cI cZ sa A mi mc ms n0 w9 pc1 L1 st1 w1) : ex_G p l e R s m args below meth c Q D cI cZ sa A mi mc ms n0 w9 pc L st w := by
  obtain ⟨hx, hb, hml, hr, hlk, hown, hts, hin⟩ := F
  simp only [ex_do, ex_ii] at ha
  split at ha
  next x y r =>
    cases ha
    exact ex_top_s G1 (fun n h => List.forall_mem_cons.mpr ⟨trivial, (List.forall_mem_cons.mp (List.forall_mem_cons.mp h).2).2⟩) fun ad H locs cells slots ls h => lv_isub hx hb hd h
  next => cases ha
theorem ex_i_imul (F : ex_F mi p s m meth c args) (hd : decode (kC mi) pc = .ok (.imul, 1)) (ha : ex_do X mi pc (.imul) L st w = some (.inl (pc1, L1, st1, w1))) (G1 : ex_G p l e R s m args below meth c Q D cI cZ sa A mi mc ms n0 w9 pc1 L1 st1 w1) : ex_G p l e R s m args below meth c Q D cI cZ sa A mi mc ms n0 w9 pc L st w := by
  obtain ⟨hx, hb, hml, hr, hlk, hown, hts, hin⟩ := F
  simp only [ex_do, ex_ii] at ha
  split at ha
  next x y r =>
    cases ha
    exact ex_top_s G1 (fun n h => List.forall_mem_cons.mpr ⟨trivial, (List.forall_mem_cons.mp (List.forall_mem_cons.mp h).2).2⟩) fun ad H locs cells slots ls h => lv_imul hx hb hd h
  next => cases ha
theorem ex_i_iand (F : ex_F mi p s m meth c args) (hd : decode (kC mi) pc = .ok (.iand, 1)) (ha : ex_do X mi pc (.iand) L st w = some (.inl (pc1, L1, st1, w1))) (G1 : ex_G p l e R s m args below meth c Q D cI cZ sa A mi mc ms n0 w9 pc1 L1 st1 w1) : ex_G p l e R s m args below meth c Q D cI cZ sa A mi mc ms n0 w9 pc L st w := by
  obtain ⟨hx, hb, hml, hr, hlk, hown, hts, hin⟩ := F
  simp only [ex_do, ex_ii] at ha
  split at ha
  next x y r =>
    cases ha
    exact ex_top_s G1 (fun n h => List.forall_mem_cons.mpr ⟨trivial, (List.forall_mem_cons.mp (List.forall_mem_cons.mp h).2).2⟩) fun ad H locs cells slots ls h => lv_iand hx hb hd h
  next => cases ha
theorem ex_i_ishl (F : ex_F mi p s m meth c args) (hd : decode (kC mi) pc = .ok (.ishl, 1)) (ha : ex_do X mi pc (.ishl) L st w = some (.inl (pc1, L1, st1, w1))) (G1 : ex_G p l e R s m args below meth c Q D cI cZ sa A mi mc ms n0 w9 pc1 L1 st1 w1) : ex_G p l e R s m args below meth c Q D cI cZ sa A mi mc ms n0 w9 pc L st w := by
  obtain ⟨hx, hb, hml, hr, hlk, hown, hts, hin⟩ := F
  simp only [ex_do, ex_ii] at ha
  split at ha
  next x y r =>
    cases ha
    exact ex_top_s G1 (fun n h => List.forall_mem_cons.mpr ⟨trivial, (List.forall_mem_cons.mp (List.forall_mem_cons.mp h).2).2⟩) fun ad H locs cells slots ls h => lv_ishl hx hb hd h
  next => cases ha
theorem ex_i_ishr (F : ex_F mi p s m meth c args) (hd : decode (kC mi) pc = .ok (.ishr, 1)) (ha : ex_do X mi pc (.ishr) L st w = some (.inl (pc1, L1, st1, w1))) (G1 : ex_G p l e R s m args below meth c Q D cI cZ sa A mi mc ms n0 w9 pc1 L1 st1 w1) : ex_G p l e R s m args below meth c Q D cI cZ sa A mi mc ms n0 w9 pc L st w := by
  obtain ⟨hx, hb, hml, hr, hlk, hown, hts, hin⟩ := F
  simp only [ex_do, ex_ii] at ha
  split at ha
  next x y r =>
    cases ha
    exact ex_top_s G1 (fun n h => List.forall_mem_cons.mpr ⟨trivial, (List.forall_mem_cons.mp (List.forall_mem_cons.mp h).2).2⟩) fun ad H locs cells slots ls h => lv_ishr hx hb hd h
  next => cases ha
theorem ex_i_ladd (F : ex_F mi p s m meth c args) (hd : decode (kC mi) pc = .ok (.ladd, 1)) (ha : ex_do X mi pc (.ladd) L st w = some (.inl (pc1, L1, st1, w1))) (G1 : ex_G p l e R s m args below meth c Q D cI cZ sa A mi mc ms n0 w9 pc1 L1 st1 w1) : ex_G p l e R s m args below meth c Q D cI cZ sa A mi mc ms n0 w9 pc L st w := by
  obtain ⟨hx, hb, hml, hr, hlk, hown, hts, hin⟩ := F
  simp only [ex_do, ex_jj] at ha
  split at ha
  next x y r =>
    cases ha
    exact ex_top_s G1 (fun n h => List.forall_mem_cons.mpr ⟨trivial, (List.forall_mem_cons.mp (List.forall_mem_cons.mp h).2).2⟩) fun ad H locs cells slots ls h => lv_ladd hx hb hd h
  next => cases ha
theorem ex_i_lsub (F : ex_F mi p s m meth c args) (hd : decode (kC mi) pc = .ok (.lsub, 1)) (ha : ex_do X mi pc (.lsub) L st w = some (.inl (pc1, L1, st1, w1))) (G1 : ex_G p l e R s m args below meth c Q D cI cZ sa A mi mc ms n0 w9 pc1 L1 st1 w1) : ex_G p l e R s m args below meth c Q D cI cZ sa A mi mc ms n0 w9 pc L st w := by
  obtain ⟨hx, hb, hml, hr, hlk, hown, hts, hin⟩ := F
  simp only [ex_do, ex_jj] at ha
  split at ha
  next x y r =>
    cases ha
    exact ex_top_s G1 (fun n h => List.forall_mem_cons.mpr ⟨trivial, (List.forall_mem_cons.mp (List.forall_mem_cons.mp h).2).2⟩) fun ad H locs cells slots ls h => lv_lsub hx hb hd h
  next => cases ha
theorem ex_i_lmul (F : ex_F mi p s m meth c args) (hd : decode (kC mi) pc = .ok (.lmul, 1)) (ha : ex_do X mi pc (.lmul) L st w = some (.inl (pc1, L1, st1, w1))) (G1 : ex_G p l e R s m args below meth c Q D cI cZ sa A mi mc ms n0 w9 pc1 L1 st1 w1) : ex_G p l e R s m args below meth c Q D cI cZ sa A mi mc ms n0 w9 pc L st w := by
  obtain ⟨hx, hb, hml, hr, hlk, hown, hts, hin⟩ := F
  simp only [ex_do, ex_jj] at ha
  split at ha
  next x y r =>
    cases ha
    exact ex_top_s G1 (fun n h => List.forall_mem_cons.mpr ⟨trivial, (List.forall_mem_cons.mp (List.forall_mem_cons.mp h).2).2⟩) fun ad H locs cells slots ls h => lv_lmul hx hb hd h
  next => cases ha
theorem ex_i_lor (F : ex_F mi p s m meth c args) (hd : decode (kC mi) pc = .ok (.lor, 1)) (ha : ex_do X mi pc (.lor) L st w = some (.inl (pc1, L1, st1, w1))) (G1 : ex_G p l e R s m args below meth c Q D cI cZ sa A mi mc ms n0 w9 pc1 L1 st1 w1) : ex_G p l e R s m args below meth c Q D cI cZ sa A mi mc ms n0 w9 pc L st w := by
  obtain ⟨hx, hb, hml, hr, hlk, hown, hts, hin⟩ := F
  simp only [ex_do, ex_jj] at ha
  split at ha
  next x y r =>
    cases ha
    exact ex_top_s G1 (fun n h => List.forall_mem_cons.mpr ⟨trivial, (List.forall_mem_cons.mp (List.forall_mem_cons.mp h).2).2⟩) fun ad H locs cells slots ls h => lv_lor hx hb hd h
  next => cases ha
theorem ex_i_lshl (F : ex_F mi p s m meth c args) (hd : decode (kC mi) pc = .ok (.lshl, 1)) (ha : ex_do X mi pc (.lshl) L st w = some (.inl (pc1, L1, st1, w1))) (G1 : ex_G p l e R s m args below meth c Q D cI cZ sa A mi mc ms n0 w9 pc1 L1 st1 w1) : ex_G p l e R s m args below meth c Q D cI cZ sa A mi mc ms n0 w9 pc L st w := by
  obtain ⟨hx, hb, hml, hr, hlk, hown, hts, hin⟩ := F
  simp only [ex_do, ex_ji] at ha
  split at ha
  next x y r =>
    cases ha
    exact ex_top_s G1 (fun n h => List.forall_mem_cons.mpr ⟨trivial, (List.forall_mem_cons.mp (List.forall_mem_cons.mp h).2).2⟩) fun ad H locs cells slots ls h => lv_lshl hx hb hd rfl h
  next => cases ha
theorem ex_i_lshr (F : ex_F mi p s m meth c args) (hd : decode (kC mi) pc = .ok (.lshr, 1)) (ha : ex_do X mi pc (.lshr) L st w = some (.inl (pc1, L1, st1, w1))) (G1 : ex_G p l e R s m args below meth c Q D cI cZ sa A mi mc ms n0 w9 pc1 L1 st1 w1) : ex_G p l e R s m args below meth c Q D cI cZ sa A mi mc ms n0 w9 pc L st w := by
  obtain ⟨hx, hb, hml, hr, hlk, hown, hts, hin⟩ := F
  simp only [ex_do, ex_ji] at ha
  split at ha
  next x y r =>
    cases ha
    exact ex_top_s G1 (fun n h => List.forall_mem_cons.mpr ⟨trivial, (List.forall_mem_cons.mp (List.forall_mem_cons.mp h).2).2⟩) fun ad H locs cells slots ls h => lv_lshr hx hb hd rfl h
  next => cases ha
theorem ex_i_idiv (F : ex_F mi p s m meth c args) (hd : decode (kC mi) pc = .ok (.idiv, 1)) (ha : ex_do X mi pc (.idiv) L st w = some (.inl (pc1, L1, st1, w1))) (G1 : ex_G p l e R s m args below meth c Q D cI cZ sa A mi mc ms n0 w9 pc1 L1 st1 w1) : ex_G p l e R s m args below meth c Q D cI cZ sa A mi mc ms n0 w9 pc L st w := by
  obtain ⟨hx, hb, hml, hr, hlk, hown, hts, hin⟩ := F
  simp only [ex_do] at ha
  split at ha
  next x y r =>
    split at ha
    next => cases ha
    next hne =>
      cases ha
      exact ex_top_s G1 (fun n h => List.forall_mem_cons.mpr ⟨trivial, (List.forall_mem_cons.mp (List.forall_mem_cons.mp h).2).2⟩) fun ad H locs cells slots ls h => lv_idiv hx hb hd hne h
  next => cases ha
theorem ex_i_irem (F : ex_F mi p s m meth c args) (hd : decode (kC mi) pc = .ok (.irem, 1)) (ha : ex_do X mi pc (.irem) L st w = some (.inl (pc1, L1, st1, w1))) (G1 : ex_G p l e R s m args below meth c Q D cI cZ sa A mi mc ms n0 w9 pc1 L1 st1 w1) : ex_G p l e R s m args below meth c Q D cI cZ sa A mi mc ms n0 w9 pc L st w := by
  obtain ⟨hx, hb, hml, hr, hlk, hown, hts, hin⟩ := F
  simp only [ex_do] at ha
  split at ha
  next x y r =>
    split at ha
    next => cases ha
    next hne =>
      cases ha
      exact ex_top_s G1 (fun n h => List.forall_mem_cons.mpr ⟨trivial, (List.forall_mem_cons.mp (List.forall_mem_cons.mp h).2).2⟩) fun ad H locs cells slots ls h => lv_irem hx hb hd hne h
  next => cases ha
theorem ex_i_ldiv (F : ex_F mi p s m meth c args) (hd : decode (kC mi) pc = .ok (.ldiv, 1)) (ha : ex_do X mi pc (.ldiv) L st w = some (.inl (pc1, L1, st1, w1))) (G1 : ex_G p l e R s m args below meth c Q D cI cZ sa A mi mc ms n0 w9 pc1 L1 st1 w1) : ex_G p l e R s m args below meth c Q D cI cZ sa A mi mc ms n0 w9 pc L st w := by
  obtain ⟨hx, hb, hml, hr, hlk, hown, hts, hin⟩ := F
  simp only [ex_do] at ha
  split at ha
  next x y r =>
    split at ha
    next => cases ha
    next hne =>
      cases ha
      exact ex_top_s G1 (fun n h => List.forall_mem_cons.mpr ⟨trivial, (List.forall_mem_cons.mp (List.forall_mem_cons.mp h).2).2⟩) fun ad H locs cells slots ls h => lv_ldiv hx hb hd hne h
  next => cases ha
theorem ex_i_lrem (F : ex_F mi p s m meth c args) (hd : decode (kC mi) pc = .ok (.lrem, 1)) (ha : ex_do X mi pc (.lrem) L st w = some (.inl (pc1, L1, st1, w1))) (G1 : ex_G p l e R s m args below meth c Q D cI cZ sa A mi mc ms n0 w9 pc1 L1 st1 w1) : ex_G p l e R s m args below meth c Q D cI cZ sa A mi mc ms n0 w9 pc L st w := by
  obtain ⟨hx, hb, hml, hr, hlk, hown, hts, hin⟩ := F
  simp only [ex_do] at ha
  split at ha
  next x y r =>
    split at ha
    next => cases ha
    next hne =>
      cases ha
      exact ex_top_s G1 (fun n h => List.forall_mem_cons.mpr ⟨trivial, (List.forall_mem_cons.mp (List.forall_mem_cons.mp h).2).2⟩) fun ad H locs cells slots ls h => lv_lrem hx hb hd hne h
  next => cases ha
theorem ex_i_ineg (F : ex_F mi p s m meth c args) (hd : decode (kC mi) pc = .ok (.ineg, 1)) (ha : ex_do X mi pc (.ineg) L st w = some (.inl (pc1, L1, st1, w1))) (G1 : ex_G p l e R s m args below meth c Q D cI cZ sa A mi mc ms n0 w9 pc1 L1 st1 w1) : ex_G p l e R s m args below meth c Q D cI cZ sa A mi mc ms n0 w9 pc L st w := by
  obtain ⟨hx, hb, hml, hr, hlk, hown, hts, hin⟩ := F
  simp only [ex_do] at ha
  split at ha
  next x r =>
    cases ha
    exact ex_top_s G1 (fun n h => List.forall_mem_cons.mpr ⟨trivial, (List.forall_mem_cons.mp h).2⟩) fun ad H locs cells slots ls h => lv_ineg hx hb hd h
  next => cases ha
theorem ex_i_lneg (F : ex_F mi p s m meth c args) (hd : decode (kC mi) pc = .ok (.lneg, 1)) (ha : ex_do X mi pc (.lneg) L st w = some (.inl (pc1, L1, st1, w1))) (G1 : ex_G p l e R s m args below meth c Q D cI cZ sa A mi mc ms n0 w9 pc1 L1 st1 w1) : ex_G p l e R s m args below meth c Q D cI cZ sa A mi mc ms n0 w9 pc L st w := by
  obtain ⟨hx, hb, hml, hr, hlk, hown, hts, hin⟩ := F
  simp only [ex_do] at ha
  split at ha
  next x r =>
    cases ha
    exact ex_top_s G1 (fun n h => List.forall_mem_cons.mpr ⟨trivial, (List.forall_mem_cons.mp h).2⟩) fun ad H locs cells slots ls h => lv_lneg hx hb hd h
  next => cases ha
theorem ex_i_i2l (F : ex_F mi p s m meth c args) (hd : decode (kC mi) pc = .ok (.i2l, 1)) (ha : ex_do X mi pc (.i2l) L st w = some (.inl (pc1, L1, st1, w1))) (G1 : ex_G p l e R s m args below meth c Q D cI cZ sa A mi mc ms n0 w9 pc1 L1 st1 w1) : ex_G p l e R s m args below meth c Q D cI cZ sa A mi mc ms n0 w9 pc L st w := by
  obtain ⟨hx, hb, hml, hr, hlk, hown, hts, hin⟩ := F
  simp only [ex_do] at ha
  split at ha
  next x r =>
    cases ha
    exact ex_top_s G1 (fun n h => List.forall_mem_cons.mpr ⟨trivial, (List.forall_mem_cons.mp h).2⟩) fun ad H locs cells slots ls h => lv_i2l hx hb hd rfl h
  next => cases ha
theorem ex_i_l2i (F : ex_F mi p s m meth c args) (hd : decode (kC mi) pc = .ok (.l2i, 1)) (ha : ex_do X mi pc (.l2i) L st w = some (.inl (pc1, L1, st1, w1))) (G1 : ex_G p l e R s m args below meth c Q D cI cZ sa A mi mc ms n0 w9 pc1 L1 st1 w1) : ex_G p l e R s m args below meth c Q D cI cZ sa A mi mc ms n0 w9 pc L st w := by
  obtain ⟨hx, hb, hml, hr, hlk, hown, hts, hin⟩ := F
  simp only [ex_do] at ha
  split at ha
  next x r =>
    cases ha
    exact ex_top_s G1 (fun n h => List.forall_mem_cons.mpr ⟨trivial, (List.forall_mem_cons.mp h).2⟩) fun ad H locs cells slots ls h => lv_l2i hx hb hd rfl h
  next => cases ha
theorem ex_i_i2b (F : ex_F mi p s m meth c args) (hd : decode (kC mi) pc = .ok (.i2b, 1)) (ha : ex_do X mi pc (.i2b) L st w = some (.inl (pc1, L1, st1, w1))) (G1 : ex_G p l e R s m args below meth c Q D cI cZ sa A mi mc ms n0 w9 pc1 L1 st1 w1) : ex_G p l e R s m args below meth c Q D cI cZ sa A mi mc ms n0 w9 pc L st w := by
  obtain ⟨hx, hb, hml, hr, hlk, hown, hts, hin⟩ := F
  simp only [ex_do] at ha
  split at ha
  next x r =>
    cases ha
    exact ex_top_s G1 (fun n h => List.forall_mem_cons.mpr ⟨trivial, (List.forall_mem_cons.mp h).2⟩) fun ad H locs cells slots ls h => lv_i2b hx hb hd rfl h
  next => cases ha
theorem ex_i_i2c (F : ex_F mi p s m meth c args) (hd : decode (kC mi) pc = .ok (.i2c, 1)) (ha : ex_do X mi pc (.i2c) L st w = some (.inl (pc1, L1, st1, w1))) (G1 : ex_G p l e R s m args below meth c Q D cI cZ sa A mi mc ms n0 w9 pc1 L1 st1 w1) : ex_G p l e R s m args below meth c Q D cI cZ sa A mi mc ms n0 w9 pc L st w := by
  obtain ⟨hx, hb, hml, hr, hlk, hown, hts, hin⟩ := F
  simp only [ex_do] at ha
  split at ha
  next x r =>
    cases ha
    exact ex_top_s G1 (fun n h => List.forall_mem_cons.mpr ⟨trivial, (List.forall_mem_cons.mp h).2⟩) fun ad H locs cells slots ls h => lv_i2c hx hb hd rfl h
  next => cases ha
theorem ex_i_lcmp (F : ex_F mi p s m meth c args) (hd : decode (kC mi) pc = .ok (.lcmp, 1)) (ha : ex_do X mi pc (.lcmp) L st w = some (.inl (pc1, L1, st1, w1))) (G1 : ex_G p l e R s m args below meth c Q D cI cZ sa A mi mc ms n0 w9 pc1 L1 st1 w1) : ex_G p l e R s m args below meth c Q D cI cZ sa A mi mc ms n0 w9 pc L st w := by
  obtain ⟨hx, hb, hml, hr, hlk, hown, hts, hin⟩ := F
  simp only [ex_do] at ha
  split at ha
  next x y r =>
    cases ha
    exact ex_top_s G1 (fun n h => List.forall_mem_cons.mpr ⟨trivial, (List.forall_mem_cons.mp (List.forall_mem_cons.mp h).2).2⟩) fun ad H locs cells slots ls h => W.lcmp hx hb hd h
  next => cases ha
theorem ex_i_dup (F : ex_F mi p s m meth c args) (hd : decode (kC mi) pc = .ok (.dup, 1)) (ha : ex_do X mi pc (.dup) L st w = some (.inl (pc1, L1, st1, w1))) (G1 : ex_G p l e R s m args below meth c Q D cI cZ sa A mi mc ms n0 w9 pc1 L1 st1 w1) : ex_G p l e R s m args below meth c Q D cI cZ sa A mi mc ms n0 w9 pc L st w := by
  obtain ⟨hx, hb, hml, hr, hlk, hown, hts, hin⟩ := F
  simp only [ex_do] at ha
  split at ha
  next v r =>
    split at ha
    next hv =>
      cases ha
      exact ex_top_s G1 (fun n h => List.forall_mem_cons.mpr ⟨(List.forall_mem_cons.mp h).1, h⟩) fun ad H locs cells slots ls h => lv_dup hx hb hd ((ex_v_cat ad v).trans hv) h
    next => cases ha
  next => cases ha
theorem ex_i_pop (F : ex_F mi p s m meth c args) (hd : decode (kC mi) pc = .ok (.pop, 1)) (ha : ex_do X mi pc (.pop) L st w = some (.inl (pc1, L1, st1, w1))) (G1 : ex_G p l e R s m args below meth c Q D cI cZ sa A mi mc ms n0 w9 pc1 L1 st1 w1) : ex_G p l e R s m args below meth c Q D cI cZ sa A mi mc ms n0 w9 pc L st w := by
  obtain ⟨hx, hb, hml, hr, hlk, hown, hts, hin⟩ := F
  simp only [ex_do] at ha
  split at ha
  next v r =>
    split at ha
    next hv =>
      cases ha
      exact ex_top_s G1 (fun n h => (List.forall_mem_cons.mp h).2) fun ad H locs cells slots ls h => lv_pop hx hb hd ((ex_v_cat ad v).trans hv) h
    next => cases ha
  next => cases ha
theorem ex_i_dup_x1 (F : ex_F mi p s m meth c args) (hd : decode (kC mi) pc = .ok (.dup_x1, 1)) (ha : ex_do X mi pc (.dup_x1) L st w = some (.inl (pc1, L1, st1, w1))) (G1 : ex_G p l e R s m args below meth c Q D cI cZ sa A mi mc ms n0 w9 pc1 L1 st1 w1) : ex_G p l e R s m args below meth c Q D cI cZ sa A mi mc ms n0 w9 pc L st w := by
  obtain ⟨hx, hb, hml, hr, hlk, hown, hts, hin⟩ := F
  simp only [ex_do] at ha
  split at ha
  next v u r =>
    split at ha
    next hv =>
      cases ha
      refine ex_top_s G1 (fun n h => ?_) fun ad H locs cells slots ls h => lv_dup_x1 hx hb hd ((ex_v_cat ad v).trans hv.1) ((ex_v_cat ad u).trans hv.2) h
      obtain ⟨a1, a2⟩ := List.forall_mem_cons.mp h
      obtain ⟨a3, a4⟩ := List.forall_mem_cons.mp a2
      exact List.forall_mem_cons.mpr ⟨a1, List.forall_mem_cons.mpr ⟨a3, List.forall_mem_cons.mpr ⟨a1, a4⟩⟩⟩
    next => cases ha
  next => cases ha
theorem ex_i_dup_x2 (F : ex_F mi p s m meth c args) (hd : decode (kC mi) pc = .ok (.dup_x2, 1)) (ha : ex_do X mi pc (.dup_x2) L st w = some (.inl (pc1, L1, st1, w1))) (G1 : ex_G p l e R s m args below meth c Q D cI cZ sa A mi mc ms n0 w9 pc1 L1 st1 w1) : ex_G p l e R s m args below meth c Q D cI cZ sa A mi mc ms n0 w9 pc L st w := by
  obtain ⟨hx, hb, hml, hr, hlk, hown, hts, hin⟩ := F
  simp only [ex_do] at ha
  split at ha
  next v u t r =>
    split at ha
    next hv =>
      cases ha
      refine ex_top_s G1 (fun n h => ?_) fun ad H locs cells slots ls h => lv_dup_x2 hx hb hd ((ex_v_cat ad v).trans hv.1) ((ex_v_cat ad u).trans hv.2.1) ((ex_v_cat ad t).trans hv.2.2) h
      obtain ⟨a1, a2⟩ := List.forall_mem_cons.mp h
      obtain ⟨a3, a4⟩ := List.forall_mem_cons.mp a2
      obtain ⟨a5, a6⟩ := List.forall_mem_cons.mp a4
      exact List.forall_mem_cons.mpr ⟨a1, List.forall_mem_cons.mpr ⟨a3, List.forall_mem_cons.mpr ⟨a5, List.forall_mem_cons.mpr ⟨a1, a6⟩⟩⟩⟩
    next => cases ha
  next => cases ha
theorem ex_i_dup2 (F : ex_F mi p s m meth c args) (hd : decode (kC mi) pc = .ok (.dup2, 1)) (ha : ex_do X mi pc (.dup2) L st w = some (.inl (pc1, L1, st1, w1))) (G1 : ex_G p l e R s m args below meth c Q D cI cZ sa A mi mc ms n0 w9 pc1 L1 st1 w1) : ex_G p l e R s m args below meth c Q D cI cZ sa A mi mc ms n0 w9 pc L st w := by
  obtain ⟨hx, hb, hml, hr, hlk, hown, hts, hin⟩ := F
  simp only [ex_do] at ha
  split at ha
  next v u r =>
    split at ha
    next hv =>
      cases ha
      refine ex_top_s G1 (fun n h => ?_) fun ad H locs cells slots ls h => lv_dup2_11 hx hb hd ((ex_v_cat ad v).trans hv.1) ((ex_v_cat ad u).trans hv.2) h
      obtain ⟨a1, a2⟩ := List.forall_mem_cons.mp h
      obtain ⟨a3, a4⟩ := List.forall_mem_cons.mp a2
      exact List.forall_mem_cons.mpr ⟨a1, List.forall_mem_cons.mpr ⟨a3, List.forall_mem_cons.mpr ⟨a1, List.forall_mem_cons.mpr ⟨a3, a4⟩⟩⟩⟩
    next => cases ha
  next => cases ha
theorem ex_i_iinc {i : Nat} {n : Int} (F : ex_F mi p s m meth c args) (hd : decode (kC mi) pc = .ok (.iinc i n, 3)) (ha : ex_do X mi pc (.iinc i n) L st w = some (.inl (pc1, L1, st1, w1))) (G1 : ex_G p l e R s m args below meth c Q D cI cZ sa A mi mc ms n0 w9 pc1 L1 st1 w1) : ex_G p l e R s m args below meth c Q D cI cZ sa A mi mc ms n0 w9 pc L st w := by
  obtain ⟨hx, hb, hml, hr, hlk, hown, hts, hin⟩ := F
  simp only [ex_do] at ha
  split at ha
  next x hg =>
    split at ha
    next hi =>
      cases ha
      intro ad H locs cells slots ls M
      obtain ⟨hl, k1, k2, kw, hP, hD, hS, c1, c2, sp, hn0⟩ := M
      have hm := ex_get_mem hg
      obtain ⟨k, hk⟩ := List.getElem?_of_mem (List.mem_map.mpr ⟨_, hm, rfl⟩ : ex_q ad (i, .int x) ∈ L.map (ex_q ad))
      refine lv_iinc hx hb hd hl hk rfl hi rfl fun ls1 h1 => ?_
      exact G1 ad H locs cells slots ls1 ⟨ex_st1 (v := .int _) rfl h1, ex_set_ok k1 trivial, k2, kw, hP, hD, hS, c1, c2, sp, hn0⟩
    next => cases ha
  next => cases ha
theorem ex_j_s {off : Int} {r : List Value} (ha : ex_j pc off L r w = some (.inl (pc1, L1, st1, w1))) : ∃ tgt : Nat, (pc : Int) + off = (tgt : Int) ∧ pc1 = tgt ∧ L1 = L ∧ st1 = r ∧ w1 = w := by
  unfold ex_j at ha
  split at ha
  next h =>
    cases ha
    exact ⟨_, (Int.toNat_of_nonneg h).symm, rfl, rfl, rfl, rfl⟩
  next => cases ha
theorem ex_i_goto {off : Int} (F : ex_F mi p s m meth c args) (hd : decode (kC mi) pc = .ok (.goto off, 3)) (ha : ex_do X mi pc (.goto off) L st w = some (.inl (pc1, L1, st1, w1))) (G1 : ex_G p l e R s m args below meth c Q D cI cZ sa A mi mc ms n0 w9 pc1 L1 st1 w1) : ex_G p l e R s m args below meth c Q D cI cZ sa A mi mc ms n0 w9 pc L st w := by
  obtain ⟨hx, hb, hml, hr, hlk, hown, hts, hin⟩ := F
  obtain ⟨tgt, ht, rfl, rfl, rfl, rfl⟩ := ex_j_s (show ex_j pc off L st w = _ from ha)
  exact ex_top_s G1 (fun n h => h) fun ad H locs cells slots ls h => lv_goto hx hb hd ht h
theorem ex_br_s {off : Int} {cb : Bool} {r : List Value} (ha : ex_br pc off cb L r w = some (.inl (pc1, L1, st1, w1))) : ∃ tgt : Nat, (pc : Int) + off = (tgt : Int) ∧ pc1 = (if cb = true then tgt else pc + 3) ∧ L1 = L ∧ st1 = r ∧ w1 = w := by
  unfold ex_br at ha
  split at ha
  next h =>
    cases ha
    exact ⟨_, (Int.toNat_of_nonneg h).symm, rfl, rfl, rfl, rfl⟩
  next => cases ha
theorem ex_i_if_eq {off : Int} (F : ex_F mi p s m meth c args) (hd : decode (kC mi) pc = .ok (.ifCond .eq off, 3)) (ha : ex_do X mi pc (.ifCond .eq off) L st w = some (.inl (pc1, L1, st1, w1))) (G1 : ex_G p l e R s m args below meth c Q D cI cZ sa A mi mc ms n0 w9 pc1 L1 st1 w1) : ex_G p l e R s m args below meth c Q D cI cZ sa A mi mc ms n0 w9 pc L st w := by
  obtain ⟨hx, hb, hml, hr, hlk, hown, hts, hin⟩ := F
  simp only [ex_do, ex_cb] at ha
  split at ha
  next x r =>
    obtain ⟨tgt, ht, hp, rfl, rfl, rfl⟩ := ex_br_s ha
    intro ad H locs cells slots ls M
    obtain ⟨hl, k1, k2, kw, hP, hD, hS, c1, c2, sp, hn0⟩ := M
    have k3 := (List.forall_mem_cons.mp k2).2
    refine lv_if_eq hx hb hd ht (fun h => ?_) (fun h => ?_)
    · rw [if_pos (decide_eq_true h)] at hp
      subst hp
      exact G1 ad H locs cells slots ls ⟨hl, k1, k3, kw, hP, hD, hS, c1, c2, sp, hn0⟩
    · rw [if_neg (fun z => h (of_decide_eq_true z))] at hp
      subst hp
      exact G1 ad H locs cells slots ls ⟨hl, k1, k3, kw, hP, hD, hS, c1, c2, sp, hn0⟩
  next => cases ha
theorem ex_i_if_ne {off : Int} (F : ex_F mi p s m meth c args) (hd : decode (kC mi) pc = .ok (.ifCond .ne off, 3)) (ha : ex_do X mi pc (.ifCond .ne off) L st w = some (.inl (pc1, L1, st1, w1))) (G1 : ex_G p l e R s m args below meth c Q D cI cZ sa A mi mc ms n0 w9 pc1 L1 st1 w1) : ex_G p l e R s m args below meth c Q D cI cZ sa A mi mc ms n0 w9 pc L st w := by
  obtain ⟨hx, hb, hml, hr, hlk, hown, hts, hin⟩ := F
  simp only [ex_do, ex_cb] at ha
  split at ha
  next x r =>
    obtain ⟨tgt, ht, hp, rfl, rfl, rfl⟩ := ex_br_s ha
    intro ad H locs cells slots ls M
    obtain ⟨hl, k1, k2, kw, hP, hD, hS, c1, c2, sp, hn0⟩ := M
    have k3 := (List.forall_mem_cons.mp k2).2
    refine lv_if_ne hx hb hd ht (fun h => ?_) (fun h => ?_)
    · rw [if_pos (decide_eq_true h)] at hp
      subst hp
      exact G1 ad H locs cells slots ls ⟨hl, k1, k3, kw, hP, hD, hS, c1, c2, sp, hn0⟩
    · rw [if_neg (fun z => (of_decide_eq_true z) h)] at hp
      subst hp
      exact G1 ad H locs cells slots ls ⟨hl, k1, k3, kw, hP, hD, hS, c1, c2, sp, hn0⟩
  next => cases ha
theorem ex_i_if_lt {off : Int} (F : ex_F mi p s m meth c args) (hd : decode (kC mi) pc = .ok (.ifCond .lt off, 3)) (ha : ex_do X mi pc (.ifCond .lt off) L st w = some (.inl (pc1, L1, st1, w1))) (G1 : ex_G p l e R s m args below meth c Q D cI cZ sa A mi mc ms n0 w9 pc1 L1 st1 w1) : ex_G p l e R s m args below meth c Q D cI cZ sa A mi mc ms n0 w9 pc L st w := by
  obtain ⟨hx, hb, hml, hr, hlk, hown, hts, hin⟩ := F
  simp only [ex_do, ex_cb] at ha
  split at ha
  next x r =>
    obtain ⟨tgt, ht, hp, rfl, rfl, rfl⟩ := ex_br_s ha
    intro ad H locs cells slots ls M
    obtain ⟨hl, k1, k2, kw, hP, hD, hS, c1, c2, sp, hn0⟩ := M
    have k3 := (List.forall_mem_cons.mp k2).2
    refine lv_if_lt hx hb hd ht (fun h => ?_) (fun h => ?_)
    · rw [if_pos (decide_eq_true h)] at hp
      subst hp
      exact G1 ad H locs cells slots ls ⟨hl, k1, k3, kw, hP, hD, hS, c1, c2, sp, hn0⟩
    · rw [if_neg (fun z => h (of_decide_eq_true z))] at hp
      subst hp
      exact G1 ad H locs cells slots ls ⟨hl, k1, k3, kw, hP, hD, hS, c1, c2, sp, hn0⟩
  next => cases ha
theorem ex_i_if_ge {off : Int} (F : ex_F mi p s m meth c args) (hd : decode (kC mi) pc = .ok (.ifCond .ge off, 3)) (ha : ex_do X mi pc (.ifCond .ge off) L st w = some (.inl (pc1, L1, st1, w1))) (G1 : ex_G p l e R s m args below meth c Q D cI cZ sa A mi mc ms n0 w9 pc1 L1 st1 w1) : ex_G p l e R s m args below meth c Q D cI cZ sa A mi mc ms n0 w9 pc L st w := by
  obtain ⟨hx, hb, hml, hr, hlk, hown, hts, hin⟩ := F
  simp only [ex_do, ex_cb] at ha
  split at ha
  next x r =>
    obtain ⟨tgt, ht, hp, rfl, rfl, rfl⟩ := ex_br_s ha
    intro ad H locs cells slots ls M
    obtain ⟨hl, k1, k2, kw, hP, hD, hS, c1, c2, sp, hn0⟩ := M
    have k3 := (List.forall_mem_cons.mp k2).2
    refine lv_if_ge hx hb hd ht (fun h => ?_) (fun h => ?_)
    · rw [if_pos (decide_eq_true h)] at hp
      subst hp
      exact G1 ad H locs cells slots ls ⟨hl, k1, k3, kw, hP, hD, hS, c1, c2, sp, hn0⟩
    · rw [if_neg (fun z => h (of_decide_eq_true z))] at hp
      subst hp
      exact G1 ad H locs cells slots ls ⟨hl, k1, k3, kw, hP, hD, hS, c1, c2, sp, hn0⟩
  next => cases ha
theorem ex_i_if_gt {off : Int} (F : ex_F mi p s m meth c args) (hd : decode (kC mi) pc = .ok (.ifCond .gt off, 3)) (ha : ex_do X mi pc (.ifCond .gt off) L st w = some (.inl (pc1, L1, st1, w1))) (G1 : ex_G p l e R s m args below meth c Q D cI cZ sa A mi mc ms n0 w9 pc1 L1 st1 w1) : ex_G p l e R s m args below meth c Q D cI cZ sa A mi mc ms n0 w9 pc L st w := by
  obtain ⟨hx, hb, hml, hr, hlk, hown, hts, hin⟩ := F
  simp only [ex_do, ex_cb] at ha
  split at ha
  next x r =>
    obtain ⟨tgt, ht, hp, rfl, rfl, rfl⟩ := ex_br_s ha
    intro ad H locs cells slots ls M
    obtain ⟨hl, k1, k2, kw, hP, hD, hS, c1, c2, sp, hn0⟩ := M
    have k3 := (List.forall_mem_cons.mp k2).2
    refine lv_if_gt hx hb hd ht (fun h => ?_) (fun h => ?_)
    · rw [if_pos (decide_eq_true h)] at hp
      subst hp
      exact G1 ad H locs cells slots ls ⟨hl, k1, k3, kw, hP, hD, hS, c1, c2, sp, hn0⟩
    · rw [if_neg (fun z => h (of_decide_eq_true z))] at hp
      subst hp
      exact G1 ad H locs cells slots ls ⟨hl, k1, k3, kw, hP, hD, hS, c1, c2, sp, hn0⟩
  next => cases ha
theorem ex_i_if_le {off : Int} (F : ex_F mi p s m meth c args) (hd : decode (kC mi) pc = .ok (.ifCond .le off, 3)) (ha : ex_do X mi pc (.ifCond .le off) L st w = some (.inl (pc1, L1, st1, w1))) (G1 : ex_G p l e R s m args below meth c Q D cI cZ sa A mi mc ms n0 w9 pc1 L1 st1 w1) : ex_G p l e R s m args below meth c Q D cI cZ sa A mi mc ms n0 w9 pc L st w := by
  obtain ⟨hx, hb, hml, hr, hlk, hown, hts, hin⟩ := F
  simp only [ex_do, ex_cb] at ha
  split at ha
  next x r =>
    obtain ⟨tgt, ht, hp, rfl, rfl, rfl⟩ := ex_br_s ha
    intro ad H locs cells slots ls M
    obtain ⟨hl, k1, k2, kw, hP, hD, hS, c1, c2, sp, hn0⟩ := M
    have k3 := (List.forall_mem_cons.mp k2).2
    refine lv_if_le hx hb hd ht (fun h => ?_) (fun h => ?_)
    · rw [if_pos (decide_eq_true h)] at hp
      subst hp
      exact G1 ad H locs cells slots ls ⟨hl, k1, k3, kw, hP, hD, hS, c1, c2, sp, hn0⟩
    · rw [if_neg (fun z => h (of_decide_eq_true z))] at hp
      subst hp
      exact G1 ad H locs cells slots ls ⟨hl, k1, k3, kw, hP, hD, hS, c1, c2, sp, hn0⟩
  next => cases ha
theorem ex_i_icmp_eq {off : Int} (F : ex_F mi p s m meth c args) (hd : decode (kC mi) pc = .ok (.if_icmp .eq off, 3)) (ha : ex_do X mi pc (.if_icmp .eq off) L st w = some (.inl (pc1, L1, st1, w1))) (G1 : ex_G p l e R s m args below meth c Q D cI cZ sa A mi mc ms n0 w9 pc1 L1 st1 w1) : ex_G p l e R s m args below meth c Q D cI cZ sa A mi mc ms n0 w9 pc L st w := by
  obtain ⟨hx, hb, hml, hr, hlk, hown, hts, hin⟩ := F
  simp only [ex_do, ex_cb] at ha
  split at ha
  next x y r =>
    obtain ⟨tgt, ht, hp, rfl, rfl, rfl⟩ := ex_br_s ha
    intro ad H locs cells slots ls M
    obtain ⟨hl, k1, k2, kw, hP, hD, hS, c1, c2, sp, hn0⟩ := M
    have k3 := (List.forall_mem_cons.mp (List.forall_mem_cons.mp k2).2).2
    refine lv_icmp_eq hx hb hd ht (fun h => ?_) (fun h => ?_)
    · rw [if_pos (decide_eq_true h)] at hp
      subst hp
      exact G1 ad H locs cells slots ls ⟨hl, k1, k3, kw, hP, hD, hS, c1, c2, sp, hn0⟩
    · rw [if_neg (fun z => h (of_decide_eq_true z))] at hp
      subst hp
      exact G1 ad H locs cells slots ls ⟨hl, k1, k3, kw, hP, hD, hS, c1, c2, sp, hn0⟩
  next => cases ha
theorem ex_i_icmp_ne {off : Int} (F : ex_F mi p s m meth c args) (hd : decode (kC mi) pc = .ok (.if_icmp .ne off, 3)) (ha : ex_do X mi pc (.if_icmp .ne off) L st w = some (.inl (pc1, L1, st1, w1))) (G1 : ex_G p l e R s m args below meth c Q D cI cZ sa A mi mc ms n0 w9 pc1 L1 st1 w1) : ex_G p l e R s m args below meth c Q D cI cZ sa A mi mc ms n0 w9 pc L st w := by
  obtain ⟨hx, hb, hml, hr, hlk, hown, hts, hin⟩ := F
  simp only [ex_do, ex_cb] at ha
  split at ha
  next x y r =>
    obtain ⟨tgt, ht, hp, rfl, rfl, rfl⟩ := ex_br_s ha
    intro ad H locs cells slots ls M
    obtain ⟨hl, k1, k2, kw, hP, hD, hS, c1, c2, sp, hn0⟩ := M
    have k3 := (List.forall_mem_cons.mp (List.forall_mem_cons.mp k2).2).2
    refine lv_icmp_ne hx hb hd ht (fun h => ?_) (fun h => ?_)
    · rw [if_pos (decide_eq_true h)] at hp
      subst hp
      exact G1 ad H locs cells slots ls ⟨hl, k1, k3, kw, hP, hD, hS, c1, c2, sp, hn0⟩
    · rw [if_neg (fun z => (of_decide_eq_true z) h)] at hp
      subst hp
      exact G1 ad H locs cells slots ls ⟨hl, k1, k3, kw, hP, hD, hS, c1, c2, sp, hn0⟩
  next => cases ha
theorem ex_i_icmp_lt {off : Int} (F : ex_F mi p s m meth c args) (hd : decode (kC mi) pc = .ok (.if_icmp .lt off, 3)) (ha : ex_do X mi pc (.if_icmp .lt off) L st w = some (.inl (pc1, L1, st1, w1))) (G1 : ex_G p l e R s m args below meth c Q D cI cZ sa A mi mc ms n0 w9 pc1 L1 st1 w1) : ex_G p l e R s m args below meth c Q D cI cZ sa A mi mc ms n0 w9 pc L st w := by
  obtain ⟨hx, hb, hml, hr, hlk, hown, hts, hin⟩ := F
  simp only [ex_do, ex_cb] at ha
  split at ha
  next x y r =>
    obtain ⟨tgt, ht, hp, rfl, rfl, rfl⟩ := ex_br_s ha
    intro ad H locs cells slots ls M
    obtain ⟨hl, k1, k2, kw, hP, hD, hS, c1, c2, sp, hn0⟩ := M
    have k3 := (List.forall_mem_cons.mp (List.forall_mem_cons.mp k2).2).2
    refine lv_icmp_lt hx hb hd ht (fun h => ?_) (fun h => ?_)
    · rw [if_pos (decide_eq_true h)] at hp
      subst hp
      exact G1 ad H locs cells slots ls ⟨hl, k1, k3, kw, hP, hD, hS, c1, c2, sp, hn0⟩
    · rw [if_neg (fun z => h (of_decide_eq_true z))] at hp
      subst hp
      exact G1 ad H locs cells slots ls ⟨hl, k1, k3, kw, hP, hD, hS, c1, c2, sp, hn0⟩
  next => cases ha
theorem ex_i_icmp_ge {off : Int} (F : ex_F mi p s m meth c args) (hd : decode (kC mi) pc = .ok (.if_icmp .ge off, 3)) (ha : ex_do X mi pc (.if_icmp .ge off) L st w = some (.inl (pc1, L1, st1, w1))) (G1 : ex_G p l e R s m args below meth c Q D cI cZ sa A mi mc ms n0 w9 pc1 L1 st1 w1) : ex_G p l e R s m args below meth c Q D cI cZ sa A mi mc ms n0 w9 pc L st w := by
  obtain ⟨hx, hb, hml, hr, hlk, hown, hts, hin⟩ := F
  simp only [ex_do, ex_cb] at ha
  split at ha
  next x y r =>
    obtain ⟨tgt, ht, hp, rfl, rfl, rfl⟩ := ex_br_s ha
    intro ad H locs cells slots ls M
    obtain ⟨hl, k1, k2, kw, hP, hD, hS, c1, c2, sp, hn0⟩ := M
    have k3 := (List.forall_mem_cons.mp (List.forall_mem_cons.mp k2).2).2
    refine lv_icmp_ge hx hb hd ht (fun h => ?_) (fun h => ?_)
    · rw [if_pos (decide_eq_true h)] at hp
      subst hp
      exact G1 ad H locs cells slots ls ⟨hl, k1, k3, kw, hP, hD, hS, c1, c2, sp, hn0⟩
    · rw [if_neg (fun z => h (of_decide_eq_true z))] at hp
      subst hp
      exact G1 ad H locs cells slots ls ⟨hl, k1, k3, kw, hP, hD, hS, c1, c2, sp, hn0⟩
  next => cases ha
theorem ex_i_icmp_gt {off : Int} (F : ex_F mi p s m meth c args) (hd : decode (kC mi) pc = .ok (.if_icmp .gt off, 3)) (ha : ex_do X mi pc (.if_icmp .gt off) L st w = some (.inl (pc1, L1, st1, w1))) (G1 : ex_G p l e R s m args below meth c Q D cI cZ sa A mi mc ms n0 w9 pc1 L1 st1 w1) : ex_G p l e R s m args below meth c Q D cI cZ sa A mi mc ms n0 w9 pc L st w := by
  obtain ⟨hx, hb, hml, hr, hlk, hown, hts, hin⟩ := F
  simp only [ex_do, ex_cb] at ha
  split at ha
  next x y r =>
    obtain ⟨tgt, ht, hp, rfl, rfl, rfl⟩ := ex_br_s ha
    intro ad H locs cells slots ls M
    obtain ⟨hl, k1, k2, kw, hP, hD, hS, c1, c2, sp, hn0⟩ := M
    have k3 := (List.forall_mem_cons.mp (List.forall_mem_cons.mp k2).2).2
    refine lv_icmp_gt hx hb hd ht (fun h => ?_) (fun h => ?_)
    · rw [if_pos (decide_eq_true h)] at hp
      subst hp
      exact G1 ad H locs cells slots ls ⟨hl, k1, k3, kw, hP, hD, hS, c1, c2, sp, hn0⟩
    · rw [if_neg (fun z => h (of_decide_eq_true z))] at hp
      subst hp
      exact G1 ad H locs cells slots ls ⟨hl, k1, k3, kw, hP, hD, hS, c1, c2, sp, hn0⟩
  next => cases ha
theorem ex_i_icmp_le {off : Int} (F : ex_F mi p s m meth c args) (hd : decode (kC mi) pc = .ok (.if_icmp .le off, 3)) (ha : ex_do X mi pc (.if_icmp .le off) L st w = some (.inl (pc1, L1, st1, w1))) (G1 : ex_G p l e R s m args below meth c Q D cI cZ sa A mi mc ms n0 w9 pc1 L1 st1 w1) : ex_G p l e R s m args below meth c Q D cI cZ sa A mi mc ms n0 w9 pc L st w := by
  obtain ⟨hx, hb, hml, hr, hlk, hown, hts, hin⟩ := F
  simp only [ex_do, ex_cb] at ha
  split at ha
  next x y r =>
    obtain ⟨tgt, ht, hp, rfl, rfl, rfl⟩ := ex_br_s ha
    intro ad H locs cells slots ls M
    obtain ⟨hl, k1, k2, kw, hP, hD, hS, c1, c2, sp, hn0⟩ := M
    have k3 := (List.forall_mem_cons.mp (List.forall_mem_cons.mp k2).2).2
    refine lv_icmp_le hx hb hd ht (fun h => ?_) (fun h => ?_)
    · rw [if_pos (decide_eq_true h)] at hp
      subst hp
      exact G1 ad H locs cells slots ls ⟨hl, k1, k3, kw, hP, hD, hS, c1, c2, sp, hn0⟩
    · rw [if_neg (fun z => h (of_decide_eq_true z))] at hp
      subst hp
      exact G1 ad H locs cells slots ls ⟨hl, k1, k3, kw, hP, hD, hS, c1, c2, sp, hn0⟩
  next => cases ha
theorem ex_sw_s (x : Int32) : ∀ (offs : List Int) (lo d : Int), -2147483648 ≤ lo → lo + offs.length ≤ 2147483648 → ex_sw x offs lo d = if x.toInt < lo ∨ lo + offs.length ≤ x.toInt then d else offs.getD (x.toInt - lo).toNat d
  | [], lo, d, h1, h2 => by
    rw [ex_sw, if_pos]
    simp only [List.length_nil]
    omega
  | o :: t, lo, d, h1, h2 => by
    rw [ex_sw, ex_sw_s x t (lo + 1) d (by omega) (by simp only [List.length_cons] at h2; omega)]
    simp only [List.length_cons] at h2
    have ht : (Int32.ofInt lo).toInt = lo := by
      rw [Int32.toInt_ofInt, show Int32.size = 4294967296 from rfl]
      rw [Int.bmod_eq_of_le] <;> omega
    by_cases hx : x = Int32.ofInt lo
    · rw [if_pos hx]
      have hxt : x.toInt = lo := by rw [hx, ht]
      rw [if_neg (by simp only [List.length_cons]; omega), hxt]
      simp
    · rw [if_neg hx]
      have hne : x.toInt ≠ lo := fun z => hx (Int32.toInt_inj.mp (by rw [z, ht]))
      simp only [List.length_cons]
      by_cases hb : x.toInt < lo ∨ lo + (t.length + 1 : Nat) ≤ x.toInt
      · rw [if_pos hb, if_pos (by omega)]
      · rw [if_neg hb, if_neg (by omega)]
        have e : (x.toInt - lo).toNat = (x.toInt - (lo + 1)).toNat + 1 := by omega
        rw [e]
        rfl
theorem ex_i_tableswitch {d lo hi : Int} {offs : Array Int} {len : Nat} (F : ex_F mi p s m meth c args) (hd : decode (kC mi) pc = .ok (.tableswitch d lo hi offs, len)) (ha : ex_do X mi pc (.tableswitch d lo hi offs) L st w = some (.inl (pc1, L1, st1, w1))) (G1 : ex_G p l e R s m args below meth c Q D cI cZ sa A mi mc ms n0 w9 pc1 L1 st1 w1) : ex_G p l e R s m args below meth c Q D cI cZ sa A mi mc ms n0 w9 pc L st w := by
  obtain ⟨hx, hb, hml, hr, hlk, hown, hts, hin⟩ := F
  simp only [ex_do] at ha
  split at ha
  next x r =>
    split at ha
    next => cases ha
    next hk =>
      have h1 : -2147483648 ≤ lo := by omega
      have h2 : lo + offs.toList.length = hi + 1 := by omega
      have h3 : hi < 2147483648 := by omega
      obtain ⟨tgt, ht, rfl, rfl, rfl, rfl⟩ := ex_j_s ha
      rw [ex_sw_s x offs.toList lo d h1 (by omega)] at ht
      intro ad H locs cells slots ls M
      obtain ⟨hl, k1, k2, kw, hP, hD, hS, c1, c2, sp, hn0⟩ := M
      have k3 := (List.forall_mem_cons.mp k2).2
      have GG := G1 ad H locs cells slots ls ⟨hl, k1, k3, kw, hP, hD, hS, c1, c2, sp, hn0⟩
      by_cases hb2 : x.toInt < lo ∨ lo + offs.toList.length ≤ x.toInt
      · rw [if_pos hb2] at ht
        exact lv_tableOut hx hb hd (by omega) ht GG
      · rw [if_neg hb2] at ht
        have hlt : (x.toInt - lo).toNat < offs.toList.length := by omega
        refine lv_tableIn hx hb hd (by omega) (by omega) (off := offs.toList.getD (x.toInt - lo).toNat d) ?_ ht GG
        rw [List.getD_eq_getElem?_getD, ← Array.getElem?_toList, List.getElem?_eq_getElem hlt]
        rfl
  next => cases ha
theorem ex_ls_s (x : Int32) : ∀ (ps : List (Int × Int)) (d : Int), (∀ q ∈ ps, -2147483648 ≤ q.1 ∧ q.1 < 2147483648) → Op.lookupswitch.offset ps d x.toInt = ex_ls x ps d
  | [], d, _ => rfl
  | q :: t, d, h => by
    have hq := h q List.mem_cons_self
    have ht : (Int32.ofInt q.1).toInt = q.1 := by
      rw [Int32.toInt_ofInt, show Int32.size = 4294967296 from rfl]
      rw [Int.bmod_eq_of_le] <;> omega
    rw [ex_ls]
    by_cases hx : x = Int32.ofInt q.1
    · rw [if_pos hx, hx, ht]
      obtain ⟨a, o⟩ := q
      simp [Op.lookupswitch.offset]
    · rw [if_neg hx, ← ex_ls_s x t d (fun z hz => h z (List.mem_cons_of_mem _ hz))]
      obtain ⟨a, o⟩ := q
      exact lv_osw hx ht
theorem ex_i_lookupswitch {d : Int} {ps : Array (Int × Int)} {len : Nat} (F : ex_F mi p s m meth c args) (hd : decode (kC mi) pc = .ok (.lookupswitch d ps, len)) (ha : ex_do X mi pc (.lookupswitch d ps) L st w = some (.inl (pc1, L1, st1, w1))) (G1 : ex_G p l e R s m args below meth c Q D cI cZ sa A mi mc ms n0 w9 pc1 L1 st1 w1) : ex_G p l e R s m args below meth c Q D cI cZ sa A mi mc ms n0 w9 pc L st w := by
  obtain ⟨hx, hb, hml, hr, hlk, hown, hts, hin⟩ := F
  simp only [ex_do] at ha
  split at ha
  next x r =>
    split at ha
    next hk =>
      obtain ⟨hk1, hk2⟩ := (Bool.and_eq_true _ _).mp hk
      obtain ⟨tgt, ht, rfl, rfl, rfl, rfl⟩ := ex_j_s ha
      exact ex_top_s G1 (fun n h => (List.forall_mem_cons.mp h).2) fun ad H locs cells slots ls h => lv_lookup hx hb hd hk1 (ex_ls_s x ps.toList d (fun q hq => of_decide_eq_true (List.all_eq_true.mp hk2 q hq))) ht h
    next => cases ha
  next => cases ha
end EXT
