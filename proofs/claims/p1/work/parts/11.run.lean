/-! the whole run: every run of the pure machine is one of the real machine -/
theorem ex_gr_pf {w w2 : ex_W} {h ci k : Nat} {v : Value} (hg : ex_pf w h ci k v = some w2) : w.length ≤ w2.length ∧ ex_sl w ≤ ex_sl w2 := by
  obtain ⟨fs, hw, hk, rfl⟩ := ex_pf_s hg
  refine ⟨by rw [List.length_set]; exact Nat.le_refl _, ?_⟩
  rw [ex_sl_set hw (by simp [ex_sz])]
  exact Nat.le_refl _
theorem ex_gr_as {w w2 : ex_W} {a kd : Nat} {i x : Int32} (hg : ex_as w a kd i x = some w2) : w.length ≤ w2.length ∧ ex_sl w ≤ ex_sl w2 := by
  obtain ⟨xs, hw, hi, hk, rfl⟩ := ex_as_s hg
  refine ⟨by rw [List.length_set]; exact Nat.le_refl _, ?_⟩
  rw [ex_sl_set hw (by simp [ex_sz])]
  exact Nat.le_refl _
theorem ex_gr_push {w : ex_W} {c : ex_C} : w.length ≤ (w ++ [c]).length ∧ ex_sl w ≤ ex_sl (w ++ [c]) := by
  refine ⟨by rw [List.length_append]; omega, ?_⟩
  rw [ex_sl_push]
  omega
set_option maxHeartbeats 4000000 in
theorem ex_do_gr {X : Option (List Int32)} {mi pc : Nat} {i : Jvm.ClassFile.Instr} {L : ex_L} {st : List Value} {w : ex_W} {pc1 : Nat} {L1 : ex_L} {st1 : List Value} {w1 : ex_W} (ha : ex_do X mi pc i L st w = some (.inl (pc1, L1, st1, w1))) : w.length ≤ w1.length ∧ ex_sl w ≤ ex_sl w1 := by
  unfold ex_do at ha
  split at ha <;> (try simp only [ex_ldA, ex_ldI, ex_ldJ, ex_stA, ex_stI, ex_stJ, ex_ii, ex_jj, ex_ji, ex_j, ex_br] at ha) <;> (repeat' split at ha) <;> first
    | (exfalso; cases ha; done)
    | (cases ha; exact ⟨Nat.le_refl _, Nat.le_refl _⟩)
    | (cases ha; exact ex_gr_pf (by assumption))
    | (cases ha; exact ex_gr_as (by assumption))
    | (cases ha; exact ex_gr_push)
theorem ex_act_gr {X : Option (List Int32)} {mi pc : Nat} {L : ex_L} {st : List Value} {w : ex_W} {pc1 : Nat} {L1 : ex_L} {st1 : List Value} {w1 : ex_W} (ha : ex_act X mi pc L st w = some (.inl (pc1, L1, st1, w1))) : w.length ≤ w1.length ∧ ex_sl w ≤ ex_sl w1 := by
  unfold ex_act at ha
  split at ha
  next i len hd =>
    split at ha
    next => exact ex_do_gr ha
    next => cases ha
  next => cases ha
theorem ex_gr {X : Option (List Int32)} : ∀ (n mi pc : Nat) (L : ex_L) (st : List Value) (w : ex_W) (r : Option Value) (w9 : ex_W), ex_run X n mi pc L st w = some (r, w9) → w.length ≤ w9.length ∧ ex_sl w ≤ ex_sl w9 := by
  intro n
  induction n with
  | zero => intro mi pc L st w r w9 h; cases h
  | succ n ih =>
    intro mi pc L st w r w9 h
    rw [ex_run_s] at h
    cases ha : ex_act X mi pc L st w with
    | none => rw [ha] at h; cases h
    | some a =>
      rw [ha] at h
      rcases a with ⟨pc1, L1, st1, w1⟩ | r1 | ⟨mj, av, r1⟩
      · have h1 := ex_act_gr ha
        have h2 := ih _ _ _ _ _ _ _ h
        omega
      · cases h
        exact ⟨Nat.le_refl _, Nat.le_refl _⟩
      · dsimp only at h
        cases hc : ex_run X n mj 0 (lv_args 0 av) [] w with
        | none => rw [hc] at h; cases h
        | some x =>
          obtain ⟨rv, w1⟩ := x
          rw [hc] at h
          have h1 := ih _ _ _ _ _ _ _ hc
          have h2 := ih _ _ _ _ _ _ _ h
          omega
theorem ex_ret_s {X : Option (List Int32)} {mi pc : Nat} {L : ex_L} {st : List Value} {w : ex_W} {r : Option Value} (ha : ex_act X mi pc L st w = some (.inr (.inl r))) : ∃ i, decode (kC mi) pc = .ok (i, 1) ∧ ex_ri (kR mi) i r ∧ st = r.toList := by
  unfold ex_act at ha
  split at ha
  next i len hd =>
    split at ha
    next hk =>
      unfold ex_do at ha
      split at ha <;> (try simp only [ex_ldA, ex_ldI, ex_ldJ, ex_stA, ex_stI, ex_stJ, ex_ii, ex_jj, ex_ji, ex_j, ex_br] at ha) <;> (repeat' split at ha) <;> first
        | (exfalso; cases ha; done)
        | (cases ha
           have hl : len = 1 := eq_of_beq hk
           subst hl
           refine ⟨_, hd, ?_, rfl⟩
           first
             | exact ⟨_, by assumption, by assumption⟩
             | exact ⟨_, by assumption⟩
             | assumption)
    next => cases ha
  next => cases ha
section EXC
variable {p : Program} {l : Launch} {e : Env} {R : Room} {s : State} {m : MethodId} {args : Array Value} {below : List Frame} {meth : Method} {c : Code} {Q : State → Prop} {D : va_G} {cI cZ : ClassId} {sa : Nat → Nat} {A : Nat → Prop} {mi mc ms n0 : Nat} {w9 : ex_W} {pc : Nat} {L : ex_L} {st : List Value} {w : ex_W} {X : Option (List Int32)} {pc1 : Nat} {L1 : ex_L} {st1 : List Value} {w1 : ex_W}
theorem ex_catm (ad : Nat → Nat) (r : List Value) : ((r.map (ex_v ad)).map fun v => v.category).sum = (r.map Value.category).sum := by
  rw [List.map_map]
  exact congrArg List.sum (List.map_congr_left fun v _ => ex_v_cat ad v)
theorem ex_i_min {idx : Nat} (F : ex_F mi p s m meth c args) (hR : kV mi ≤ R.frames ∧ kW mi ≤ R.locals) (hmc : mc ≤ R.cells) (hms : ms ≤ R.slots) (hle : w1.length ≤ w9.length ∧ ex_sl w1 ≤ ex_sl w9) (hd : decode (kC mi) pc = .ok (.invokestatic idx, 3)) (ha : ex_do X mi pc (.invokestatic idx) L st w = some (.inl (pc1, L1, st1, w1))) (G1 : ex_G p l e R s m args below meth c Q D cI cZ sa A mi mc ms n0 w9 pc1 L1 st1 w1) : ex_G p l e R s m args below meth c Q D cI cZ sa A mi mc ms n0 w9 pc L st w := by
  obtain ⟨hx, hb, hml, hr, hlk, hown, hts, hin⟩ := F
  simp only [ex_do] at ha
  split at ha
  next mj hM =>
    split at ha
    · split at ha <;> cases ha
    · cases ha
  next mj hM =>
    split at ha
    next y x r =>
      split at ha
      next hk =>
        obtain ⟨hk1, hk2, hk3⟩ := hk
        cases ha
        intro ad H locs cells slots ls M
        obtain ⟨hl, k1, k2, kw, hP, hD, hS, c1, c2, sp, hn0⟩ := M
        have GG := G1 ad H locs cells slots ls ⟨hl, k1, List.forall_mem_cons.mpr ⟨trivial, (List.forall_mem_cons.mp (List.forall_mem_cons.mp k2).2).2⟩, kw, hP, hD, hS, c1, c2, sp, hn0⟩
        obtain ⟨a1, a2, a3⟩ := kt_min
        have hcat := ex_catm ad r
        exact va_mmin hx hb (hml.trans hl.1.symm) hown (hts _ (kt_M5 hM)) (hts _ a1) (hts _ a2) (hts _ a3) (by omega) (by omega) (by omega) (by omega) hd GG
      next => cases ha
    next => cases ha
  next => cases ha
theorem ex_i_obj {idx : Nat} (F : ex_F mi p s m meth c args) (hR : kV mi ≤ R.frames ∧ kW mi ≤ R.locals) (hmc : mc ≤ R.cells) (hms : ms ≤ R.slots) (hle : w1.length ≤ w9.length ∧ ex_sl w1 ≤ ex_sl w9) (hd : decode (kC mi) pc = .ok (.invokespecial idx, 3)) (ha : ex_do X mi pc (.invokespecial idx) L st w = some (.inl (pc1, L1, st1, w1))) (G1 : ex_G p l e R s m args below meth c Q D cI cZ sa A mi mc ms n0 w9 pc1 L1 st1 w1) : ex_G p l e R s m args below meth c Q D cI cZ sa A mi mc ms n0 w9 pc L st w := by
  obtain ⟨hx, hb, hml, hr, hlk, hown, hts, hin⟩ := F
  simp only [ex_do] at ha
  split at ha
  next mj hM =>
    split at ha
    · split at ha <;> cases ha
    · cases ha
  next mj hM =>
    split at ha
    next a r =>
      split at ha
      next hk =>
        obtain ⟨hk1, hk2, hk3⟩ := hk
        cases ha
        intro ad H locs cells slots ls M
        obtain ⟨hl, k1, k2, kw, hP, hD, hS, c1, c2, sp, hn0⟩ := M
        have GG := G1 ad H locs cells slots ls ⟨hl, k1, (List.forall_mem_cons.mp k2).2, kw, hP, hD, hS, c1, c2, sp, hn0⟩
        obtain ⟨a1, a2⟩ := kt_obj
        have hcat := ex_catm ad st1
        exact W.objInit (g := F0 m pc ls ((Value.ref a :: st1).map (ex_v ad))) (a := ad a) (rest := st1.map (ex_v ad)) hx hb hown (hts _ (kt_M6 hM)) (hts _ a1) (hts _ a2) rfl (hl.1.trans hml.symm) rfl hd (by omega) (by rw [hcat]; show 2 * 0 + _ + 12 ≤ _; omega) GG
      next => cases ha
    next => cases ha
  next => cases ha
theorem ex_step_all (F : ex_F mi p s m meth c args) (K : ex_K D cI cZ sa X A s) (hA : ∀ q, s.heap.size ≤ q → A q) (hR : kV mi ≤ R.frames ∧ kW mi ≤ R.locals) (hmc : mc ≤ R.cells) (hms : ms ≤ R.slots) (hle : w1.length ≤ w9.length ∧ ex_sl w1 ≤ ex_sl w9) (ha : ex_act X mi pc L st w = some (.inl (pc1, L1, st1, w1))) (G1 : ex_G p l e R s m args below meth c Q D cI cZ sa A mi mc ms n0 w9 pc1 L1 st1 w1) : ex_G p l e R s m args below meth c Q D cI cZ sa A mi mc ms n0 w9 pc L st w := by
  unfold ex_act at ha
  split at ha
  next i len hd =>
    split at ha
    next hk =>
      cases i with
      | aload_n => cases (eq_of_beq hk : len = _); exact ex_i_aload_n F hd ha G1
      | aload => cases (eq_of_beq hk : len = _); exact ex_i_aload F hd ha G1
      | iload_n => cases (eq_of_beq hk : len = _); exact ex_i_iload_n F hd ha G1
      | iload => cases (eq_of_beq hk : len = _); exact ex_i_iload F hd ha G1
      | lload_n => cases (eq_of_beq hk : len = _); exact ex_i_lload_n F hd ha G1
      | lload => cases (eq_of_beq hk : len = _); exact ex_i_lload F hd ha G1
      | astore_n => cases (eq_of_beq hk : len = _); exact ex_i_astore_n F hd ha G1
      | astore => cases (eq_of_beq hk : len = _); exact ex_i_astore F hd ha G1
      | istore_n => cases (eq_of_beq hk : len = _); exact ex_i_istore_n F hd ha G1
      | istore => cases (eq_of_beq hk : len = _); exact ex_i_istore F hd ha G1
      | lstore_n => cases (eq_of_beq hk : len = _); exact ex_i_lstore_n F hd ha G1
      | lstore => cases (eq_of_beq hk : len = _); exact ex_i_lstore F hd ha G1
      | iconst => cases (eq_of_beq hk : len = _); exact ex_i_iconst F hd ha G1
      | bipush => cases (eq_of_beq hk : len = _); exact ex_i_bipush F hd ha G1
      | sipush => cases (eq_of_beq hk : len = _); exact ex_i_sipush F hd ha G1
      | lconst => cases (eq_of_beq hk : len = _); exact ex_i_lconst F hd ha G1
      | iinc => cases (eq_of_beq hk : len = _); exact ex_i_iinc F hd ha G1
      | iadd => cases (eq_of_beq hk : len = _); exact ex_i_iadd F hd ha G1
      | isub => cases (eq_of_beq hk : len = _); exact ex_i_isub F hd ha G1
      | imul => cases (eq_of_beq hk : len = _); exact ex_i_imul F hd ha G1
      | iand => cases (eq_of_beq hk : len = _); exact ex_i_iand F hd ha G1
      | ishl => cases (eq_of_beq hk : len = _); exact ex_i_ishl F hd ha G1
      | ishr => cases (eq_of_beq hk : len = _); exact ex_i_ishr F hd ha G1
      | ladd => cases (eq_of_beq hk : len = _); exact ex_i_ladd F hd ha G1
      | lsub => cases (eq_of_beq hk : len = _); exact ex_i_lsub F hd ha G1
      | lmul => cases (eq_of_beq hk : len = _); exact ex_i_lmul F hd ha G1
      | lor => cases (eq_of_beq hk : len = _); exact ex_i_lor F hd ha G1
      | lshl => cases (eq_of_beq hk : len = _); exact ex_i_lshl F hd ha G1
      | lshr => cases (eq_of_beq hk : len = _); exact ex_i_lshr F hd ha G1
      | idiv => cases (eq_of_beq hk : len = _); exact ex_i_idiv F hd ha G1
      | irem => cases (eq_of_beq hk : len = _); exact ex_i_irem F hd ha G1
      | ldiv => cases (eq_of_beq hk : len = _); exact ex_i_ldiv F hd ha G1
      | lrem => cases (eq_of_beq hk : len = _); exact ex_i_lrem F hd ha G1
      | ineg => cases (eq_of_beq hk : len = _); exact ex_i_ineg F hd ha G1
      | lneg => cases (eq_of_beq hk : len = _); exact ex_i_lneg F hd ha G1
      | i2l => cases (eq_of_beq hk : len = _); exact ex_i_i2l F hd ha G1
      | l2i => cases (eq_of_beq hk : len = _); exact ex_i_l2i F hd ha G1
      | i2b => cases (eq_of_beq hk : len = _); exact ex_i_i2b F hd ha G1
      | i2c => cases (eq_of_beq hk : len = _); exact ex_i_i2c F hd ha G1
      | lcmp => cases (eq_of_beq hk : len = _); exact ex_i_lcmp F hd ha G1
      | dup => cases (eq_of_beq hk : len = _); exact ex_i_dup F hd ha G1
      | dup_x1 => cases (eq_of_beq hk : len = _); exact ex_i_dup_x1 F hd ha G1
      | dup_x2 => cases (eq_of_beq hk : len = _); exact ex_i_dup_x2 F hd ha G1
      | dup2 => cases (eq_of_beq hk : len = _); exact ex_i_dup2 F hd ha G1
      | pop => cases (eq_of_beq hk : len = _); exact ex_i_pop F hd ha G1
      | goto => cases (eq_of_beq hk : len = _); exact ex_i_goto F hd ha G1
      | tableswitch => exact ex_i_tableswitch F hd ha G1
      | lookupswitch => exact ex_i_lookupswitch F hd ha G1
      | ldc => cases (eq_of_beq hk : len = _); exact ex_i_ldc F K hd ha G1
      | ldc2_w => cases (eq_of_beq hk : len = _); exact ex_i_ldc2 F K hd ha G1
      | getstatic => cases (eq_of_beq hk : len = _); exact ex_i_getstatic F K hd ha G1
      | getfield => cases (eq_of_beq hk : len = _); exact ex_i_getfield F K hd ha G1
      | putfield => cases (eq_of_beq hk : len = _); exact ex_i_putfield F K hd ha G1
      | arraylength => cases (eq_of_beq hk : len = _); exact ex_i_arraylength F K hd ha G1
      | iaload => cases (eq_of_beq hk : len = _); exact ex_i_iaload F K hd ha G1
      | baload => cases (eq_of_beq hk : len = _); exact ex_i_baload F K hd ha G1
      | iastore => cases (eq_of_beq hk : len = _); exact ex_i_iastore F K hd ha G1
      | bastore => cases (eq_of_beq hk : len = _); exact ex_i_bastore F K hd ha G1
      | new => cases (eq_of_beq hk : len = _); exact ex_i_new F K hA hmc hms hle hd ha G1
      | newarray a =>
        cases (eq_of_beq hk : len = _)
        cases a with
        | int => exact ex_i_newarrI F K hA hmc hms hle hd ha G1
        | boolean => exact ex_i_newarrZ F K hA hmc hms hle hd ha G1
        | _ => exfalso; cases ha
      | ifCond c off =>
        cases (eq_of_beq hk : len = _)
        cases c with
        | eq => exact ex_i_if_eq F hd ha G1
        | ne => exact ex_i_if_ne F hd ha G1
        | lt => exact ex_i_if_lt F hd ha G1
        | ge => exact ex_i_if_ge F hd ha G1
        | gt => exact ex_i_if_gt F hd ha G1
        | le => exact ex_i_if_le F hd ha G1
      | if_icmp c off =>
        cases (eq_of_beq hk : len = _)
        cases c with
        | eq => exact ex_i_icmp_eq F hd ha G1
        | ne => exact ex_i_icmp_ne F hd ha G1
        | lt => exact ex_i_icmp_lt F hd ha G1
        | ge => exact ex_i_icmp_ge F hd ha G1
        | gt => exact ex_i_icmp_gt F hd ha G1
        | le => exact ex_i_icmp_le F hd ha G1
      | invokestatic => cases (eq_of_beq hk : len = _); exact ex_i_min F hR hmc hms hle hd ha G1
      | invokespecial => cases (eq_of_beq hk : len = _); exact ex_i_obj F hR hmc hms hle hd ha G1
      | _ => exfalso; simp only [ex_do] at ha; (repeat' split at ha) <;> cases ha
    next => cases ha
  next => cases ha
end EXC
