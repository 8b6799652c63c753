/-! calls, and the whole -/
section EXD
variable {p : Program} {l : Launch} {e : Env} {R : Room} {s : State} {m : MethodId} {args : Array Value} {below : List Frame} {meth : Method} {c : Code} {Q : State → Prop} {D : va_G} {cI cZ : ClassId} {sa : Nat → Nat} {A : Nat → Prop} {mi mc ms n0 : Nat} {w9 : ex_W} {pc : Nat} {L : ex_L} {st : List Value} {w : ex_W} {X : Option (List Int32)} {pc1 : Nat} {L1 : ex_L} {st1 : List Value} {w1 : ex_W}
theorem ex_pop_s {n : Nat} {st av r : List Value} (h : ex_pop n st = some (av, r)) : st = av.reverse ++ r ∧ av.length = n := by
  unfold ex_pop at h
  split at h
  next hn =>
    cases h
    refine ⟨by rw [List.reverse_reverse, List.take_append_drop], ?_⟩
    rw [List.length_reverse, List.length_take]
    omega
  next => cases h
theorem ex_lv_s {mj : Nat} {av r : List Value} (h : ex_lv mi mj av r = true) : 0 < mj ∧ mj < kNM ∧ kV mj + 1 ≤ kV mi ∧ kL mj + 19 + kW mj ≤ kW mi ∧ (lg_sl av).length ≤ kL mj ∧ (r.map Value.category).sum ≤ 8 := of_decide_eq_true h
theorem ex_call_s {mj : Nat} {av r : List Value} (ha : ex_act X mi pc L st w = some (.inr (.inr (mj, av, r)))) : ex_pop (kA mj) st = some (av, r) ∧ ex_lv mi mj av r = true ∧ ∃ idx,
    (decode (kC mi) pc = .ok (.invokestatic idx, 3) ∧ kM (kO mi) idx = some (mj, 1)) ∨
    (decode (kC mi) pc = .ok (.invokevirtual idx, 3) ∧ kM (kO mi) idx = some (mj, 0) ∧ ∃ h a2, av = .ref h :: a2 ∧ ex_rc w h (kH mj) = true) ∨
    (decode (kC mi) pc = .ok (.invokespecial idx, 3) ∧ kM (kO mi) idx = some (mj, 2) ∧ ∃ h a2, av = .ref h :: a2) := by
  unfold ex_act at ha
  split at ha
  next i len hd =>
    split at ha
    next hk =>
      cases i with
      | invokestatic idx =>
        cases (eq_of_beq hk : len = _)
        simp only [ex_do] at ha
        split at ha
        next m2 hM =>
          split at ha
          next a2 r2 hp =>
            split at ha
            next hl =>
              cases ha
              exact ⟨hp, hl, idx, Or.inl ⟨hd, hM⟩⟩
            next => cases ha
          next => cases ha
        next => exfalso; (repeat' split at ha) <;> cases ha
        next => cases ha
      | invokevirtual idx =>
        cases (eq_of_beq hk : len = _)
        simp only [ex_do] at ha
        split at ha
        next m2 hM =>
          split at ha
          next h2 a2 r2 hp =>
            split at ha
            next hl =>
              cases ha
              exact ⟨hp, hl.1, idx, Or.inr (Or.inl ⟨hd, hM, _, _, rfl, hl.2⟩)⟩
            next => cases ha
          next => cases ha
        next => cases ha
      | invokespecial idx =>
        cases (eq_of_beq hk : len = _)
        simp only [ex_do] at ha
        split at ha
        next m2 hM =>
          split at ha
          next h2 a2 r2 hp =>
            split at ha
            next hl =>
              cases ha
              exact ⟨hp, hl, idx, Or.inr (Or.inr ⟨hd, hM, _, _, rfl⟩)⟩
            next => cases ha
          next => cases ha
        next => exfalso; (repeat' split at ha) <;> cases ha
        next => cases ha
      | newarray a => exfalso; cases a <;> simp only [ex_do] at ha <;> (repeat' split at ha) <;> cases ha
      | _ => exfalso; simp only [ex_do, ex_ldA, ex_ldI, ex_ldJ, ex_stA, ex_stI, ex_stJ, ex_ii, ex_jj, ex_ji, ex_j, ex_br] at ha; (repeat' split at ha) <;> cases ha
    next => cases ha
  next => cases ha
/-- behind a call -/
theorem ex_callW {H : Heap} {locs : List Loc} {cells slots kc ks : Nat} {ls : Array Slot} {st0 rest : List Value} {Qa : State → Outcome → State → Prop} {free : Addr → Prop} (hr : va_Run p l e R s m args below meth c H locs cells slots kc ks (F0 m pc ls st0) rest Qa free)
    (kk : ∀ (v : Option Value) (s0 t : State) (H1 : Heap) (L2 : List Loc), s0.heap = H → Qa s0 (.returned v) t → t.heap = H1 → (∀ q ∈ L2, free q.base) → W p l e R s m args below meth c H1 (locs ++ L2) (cells + kc) (slots + ks) Q (F0 m (pc + 3) ls (v.toList ++ rest))) : W p l e R s m args below meth c H locs cells slots Q (F0 m pc ls st0) := by
  intro T hT X
  obtain ⟨v, s0, t, T1, L2, h0, X1, hL, e1, e2, hq, st⟩ := hr T hT X
  obtain ⟨t2, a1, b1⟩ := kk v s0 t T1.heap L2 h0 hq e1.symm hL T1 rfl X1
  exact ⟨t2, st t2 a1, b1⟩
theorem ex_G_less {L2 : ex_L} (hL : ∀ q ∈ L2, q ∈ L) (G1 : ex_G p l e R s m args below meth c Q D cI cZ sa A mi mc ms n0 w9 pc L2 st w) : ex_G p l e R s m args below meth c Q D cI cZ sa A mi mc ms n0 w9 pc L st w := by
  intro ad H locs cells slots ls M
  obtain ⟨hl, k1, k2, kw, hP, hD, hS, c1, c2, sp, hn0⟩ := M
  refine G1 ad H locs cells slots ls ⟨lv_less hl fun q hq => ?_, fun q hq => k1 q (hL q hq), k2, kw, hP, hD, hS, c1, c2, sp, hn0⟩
  obtain ⟨x, hx, rfl⟩ := List.mem_map.mp hq
  exact List.mem_map.mpr ⟨x, hL x hx, rfl⟩
set_option maxHeartbeats 4000000 in
theorem ex_call_G {n mj : Nat} {av r : List Value} {rv : Option Value} (ih : ex_Snd l X n) (F : ex_F mi p s m meth c args) (K : ex_K D cI cZ sa X A s) (hA : ∀ q, s.heap.size ≤ q → A q) (hR : kV mi ≤ R.frames ∧ kW mi ≤ R.locals) (hmc : mc ≤ R.cells) (hms : ms ≤ R.slots) (ha : ex_act X mi pc L st w = some (.inr (.inr (mj, av, r)))) (hrun : ex_run X n mj 0 (lv_args 0 av) [] w = some (rv, w1)) (hle : w1.length ≤ w9.length ∧ ex_sl w1 ≤ ex_sl w9) (G1 : ex_G p l e R s m args below meth c Q D cI cZ sa A mi mc ms n0 w9 (pc + 3) L (rv.toList ++ r) w1) : ex_G p l e R s m args below meth c Q D cI cZ sa A mi mc ms n0 w9 pc L st w := by
  obtain ⟨hpop, hlv, idx, hcase⟩ := ex_call_s ha
  obtain ⟨rfl, hpn⟩ := ex_pop_s hpop
  obtain ⟨q0, q1, qV, qW, qL, qC⟩ := ex_lv_s hlv
  have hg := ex_gr _ _ _ _ _ _ _ _ hrun
  obtain ⟨y1, y2, y3, y4, y5⟩ := kt_Y q0 q1
  obtain ⟨hx, hb, hml, hr, hlk, hown, hts, hin⟩ := F
  intro ad H locs cells slots ls M
  obtain ⟨hl, k1, k2, kw, hP, hD, hS, c1, c2, sp, hn0⟩ := M
  have kav : ∀ v ∈ av, ex_ok w.length v := fun v hv => k2 v (List.mem_append_left _ (List.mem_reverse.mpr hv))
  have krs : ∀ v ∈ r, ex_ok w.length v := fun v hv => k2 v (List.mem_append_right _ hv)
  have hM := ex_met ih q0 q1 hrun kav qL kw hg D cI cZ ad H.size
  have hAA : ∀ q, va_A (ex_m cI cZ ad w) H.size q → A q := by
    intro q hq
    rcases hq with ⟨k, z, hk⟩ | hq
    · exact hD.2 k (q, z) hk
    · exact hA q (Nat.le_trans hS.1 hq)
  have hpre : ∀ U : State, U.heap = H → s.WarmedH U.vm → ex_Pre D cI cZ X ad w av H.size (av.map (ex_v ad)).toArray U := fun U hU hW => ⟨rfl, by rw [hU], by rw [hU]; exact hP, hD.weaken (fun _ _ _ _ => trivial), ex_K_call K hW hU hS hAA (fun k hk => sp k (Or.inr hk))⟩
  have hcat := ex_catm ad r
  have hroom : 2 * (F0 m pc ls ((av.reverse ++ r).map (ex_v ad))).monitorRoom + ((r.map (ex_v ad)).map fun v => v.category).sum ≤ 8 := by
    rw [hcat]
    show 2 * 0 + _ ≤ 8
    omega
  have hf : cells + (w1.length - w.length) ≤ R.cells ∧ slots + (ex_sl w1 - ex_sl w) ≤ R.slots := by omega
  have hgood := ex_ws_good q0 q1
  have hstk : (av.reverse ++ r).map (ex_v ad) = (av.map (ex_v ad)).reverse ++ r.map (ex_v ad) := by rw [List.map_append, List.map_reverse]
  have hrooms : (ex_rm mj (w1.length - w.length) (ex_sl w1 - ex_sl w)).frames + 1 ≤ R.frames ∧ 8 + (kL mj + 11) + (ex_rm mj (w1.length - w.length) (ex_sl w1 - ex_sl w)).locals ≤ R.locals := by
    show kV mj + 1 ≤ R.frames ∧ 8 + (kL mj + 11) + kW mj ≤ R.locals
    omega
  have kk : ∀ (v : Option Value) (s0 t : State) (H1 : Heap) (L2 : List Loc), s0.heap = H → ex_Post D cI cZ ad w rv w1 H.size (av.map (ex_v ad)).toArray s0 (.returned v) t → t.heap = H1 → (∀ q ∈ L2, va_A (ex_m cI cZ ad w) H.size q.base) → W p l e R s m args below meth c H1 (locs ++ L2) (cells + (w1.length - w.length)) (slots + (ex_sl w1 - ex_sl w)) Q (F0 m (pc + 3) ls (v.toList ++ r.map (ex_v ad))) := by
    intro v s0 t H1 L2 h0 hq ht hL2
    obtain ⟨⟨ad1, e1, e2, e3, e4, e5, e6⟩, hz, hk⟩ := hq
    cases e2
    subst ht
    rw [h0] at hz hk
    have hext : ex_ext w.length ad ad1 := e1
    have GG := G1 ad1 t.heap (locs ++ L2) (cells + (w1.length - w.length)) (slots + (ex_sl w1 - ex_sl w)) ls ⟨by rw [ex_mapq_ext hext k1]; exact hl, fun q hq => ex_ok_mono hg.1 (k1 q hq), fun v hv => ?_, e4, e5, e6.weaken (fun _ q _ h => hAA q.1 h), ?_, by omega, by omega, fun k hk => ?_, by omega⟩
    · have es : (rv.toList ++ r).map (ex_v ad1) = (rv.map (ex_v ad1)).toList ++ r.map (ex_v ad) := by
        rw [List.map_append, ex_map_ext hext krs]
        cases rv <;> rfl
      rw [es] at GG
      exact GG
    · rcases List.mem_append.mp hv with h | h
      · exact e3 v h
      · exact ex_ok_mono hg.1 (krs v h)
    · refine ⟨Nat.le_trans hS.1 hz, fun q h1 h2 => ?_, fun q hq => ?_⟩
      · rw [hk q (Nat.lt_of_lt_of_le h1 hS.1) (fun z => h2 (hAA q z))]
        exact hS.2.1 q h1 h2
      · rcases List.mem_append.mp hq with h | h
        · exact hS.2.2 q h
        · exact hAA _ (hL2 q h)
    · rw [e1 k (by omega)]
      exact sp k hk
  rcases hcase with ⟨hd, hMk⟩ | ⟨hd, hMk, h, a2, rfl, hrc⟩ | ⟨hd, hMk, h, a2, rfl⟩
  · obtain ⟨b1, b2, b3⟩ := kt_M1 hMk
    have hT : GoodIn kWS (va_wsS (kOn (kO mi)) idx (kY mj) (ex_ws mj)) := by
      intro q hq
      rcases List.mem_append.mp hq with z | z
      · rcases List.mem_cons.mp z with rfl | z
        · exact kWS_good _ b1
        · rcases List.mem_cons.mp z with rfl | z
          · exact kWS_good _ b2
          · rw [List.mem_singleton.mp z]
            exact kWS_good _ y2
      · exact hgood q z
    refine ex_callW (va_runS (g := F0 m pc ls ((av.reverse ++ r).map (ex_v ad))) (As := av.map (ex_v ad)) (rest := r.map (ex_v ad)) ⟨hx, hb, hml, hown, hts⟩ hM (va_cwS (kA mj) hts hT rfl rfl rfl ⟨y3.2.1, y3.2.2, b3⟩ hrooms) ⟨ex_Pre_blind, hpre⟩ rfl (by rw [List.length_map, hpn]) hl.1 hstk hroom hd hf) kk
  · obtain ⟨b1, b2, b3, b4, b5, b6⟩ := kt_M0 hMk
    have hT : GoodIn kWS (wsV (kOn (kO mi)) idx (kY mj).cls (kY mj) (ex_ws mj)) := by
      intro q hq
      rcases List.mem_append.mp hq with z | z
      · rcases List.mem_cons.mp z with rfl | z
        · exact kWS_good _ b1
        · rcases List.mem_cons.mp z with rfl | z
          · exact kWS_good _ b2
          · rcases List.mem_cons.mp z with rfl | z
            · exact kWS_good _ b3
            · rw [List.mem_singleton.mp z]
              exact kWS_good _ y2
      · exact hgood q z
    have hrecv : ∃ cellB : Cell, H[ad h]? = some cellB ∧ cellB.vm.isStatics = false ∧ s.vm.findClass (kY mj).cls = some cellB.cls := by
      unfold ex_rc at hrc
      split at hrc
      next h9 =>
        have hs := of_decide_eq_true hrc
        obtain ⟨hj, e1, e2, o1, o2⟩ := ex_o1 hs
        obtain ⟨cell, g1, g2, g3, g4⟩ := (K.2.2.1 (h - 1001) hj).1
        rw [e1, ← sp h (Or.inr o1)] at g1 g4
        exact ⟨cell, (hS.2.1 _ (Array.getElem?_eq_some_iff.mp g1).1 g4).trans g1, g2, by rw [b5 h9]; exact g3⟩
      next h9 =>
        split at hrc
        next cj fs hw =>
          obtain ⟨z1, z2⟩ := (Bool.and_eq_true _ _).mp hrc
          have hc := eq_of_beq z2
          subst hc
          obtain ⟨T, N, hT2⟩ := b6 h9
          exact va_recv K.1 hP hT2 (ex_m_get hw)
        next => cases hrc
    have hn2 : (parseMethodDescriptor (kY mj).desc).map (fun d => d.parameters.length) = some a2.length := by
      cases hpd : parseMethodDescriptor (kY mj).desc with
      | none => rw [hpd] at b4; cases b4
      | some d =>
        rw [hpd] at b4
        have e : d.parameters.length + 1 = kA mj := Option.some.inj b4
        simp only [List.length_cons] at hpn
        show some d.parameters.length = some a2.length
        rw [show d.parameters.length = a2.length by omega]
    have hst2 : ((Value.ref h :: a2).reverse ++ r).map (ex_v ad) = (a2.map (ex_v ad)).reverse ++ .ref (ad h) :: r.map (ex_v ad) := by
      rw [hstk]
      simp [ex_v]
    exact ex_callW (va_runV (g := F0 m pc ls (((Value.ref h :: a2).reverse ++ r).map (ex_v ad))) (C := (kY mj).cls) (b := ad h) (As := a2.map (ex_v ad)) (rest := r.map (ex_v ad)) ⟨hx, hb, hml, hown, hts⟩ hM (cwV a2.length hts hT rfl rfl rfl ⟨rfl, y3.2.1, y3.2.2, hn2⟩ hrooms) ⟨ex_Pre_blind, hrecv, hpre⟩ rfl (by rw [List.length_map]) hl.1 hst2 hroom hd hf) kk
  · obtain ⟨b1, b2, b3, b4, b5⟩ := kt_M2 hMk
    have hn2 : (parseMethodDescriptor (kY mj).desc).map (fun d => d.parameters.length) = some a2.length := by
      cases hpd : parseMethodDescriptor (kY mj).desc with
      | none => rw [hpd] at b3; cases b3
      | some d =>
        rw [hpd] at b3
        have e : d.parameters.length + 1 = kA mj := Option.some.inj b3
        simp only [List.length_cons] at hpn
        show some d.parameters.length = some a2.length
        rw [show d.parameters.length = a2.length by omega]
    have hst2 : ((Value.ref h :: a2).reverse ++ r).map (ex_v ad) = (a2.map (ex_v ad)).reverse ++ .ref (ad h) :: r.map (ex_v ad) := by
      rw [hstk]
      simp [ex_v]
    have hws : ex_ws mj = Cond.code (kY mj) (kC mj) (kL mj) none :: kWS := by unfold ex_ws; rw [b5]
    exact ex_callW (va_runI (g := F0 m pc ls (((Value.ref h :: a2).reverse ++ r).map (ex_v ad))) (b := ad h) (As := a2.map (ex_v ad)) (rest := r.map (ex_v ad)) ⟨hx, hb, hml, hown, hts⟩ hM (cwI a2.length hts hgood hws rfl rfl (hts _ y2) (hts _ b1) (hts _ b2) (y5 b4) ⟨y3.2.1, y3.2.2, hn2⟩ hrooms) ⟨ex_Pre_blind, hpre⟩ rfl (by rw [List.length_map]) hl.1 hst2 hroom hd hf) kk
end EXD
/-- THE TIE: what the pure machine answers, the real one answers -/
theorem ex_snd (l : Launch) (X : Option (List Int32)) : ∀ n, ex_Snd l X n := by
  intro n
  induction n with
  | zero => intro mi pc L st w r w9 hmi h; cases h
  | succ n ih =>
    intro mi pc L st w r w9 hmi h p e R s m args below meth c Q D cI cZ sa A mc ms n0 F K hA hR hmc hms hret
    rw [ex_run_s] at h
    cases ha : ex_act X mi pc L st w with
    | none => rw [ha] at h; cases h
    | some a =>
      rw [ha] at h
      rcases a with ⟨pc1, L1, st1, w1⟩ | r1 | ⟨mj, av, r1⟩
      · dsimp only at h
        have G1 := ih mi pc1 (ex_tr mi pc1 L1) st1 w1 r w9 hmi h p e R s m args below meth c Q D cI cZ sa A mc ms n0 F K hA hR hmc hms hret
        exact ex_step_all F K hA hR hmc hms (ex_gr _ _ _ _ _ _ _ _ h) ha (ex_G_less (fun q hq => ex_tr_mem hq) G1)
      · cases h
        obtain ⟨i, hd, hri, rfl⟩ := ex_ret_s ha
        exact ex_G_less (fun q hq => by cases hq) (hret pc i hd hri)
      · dsimp only at h
        cases hc : ex_run X n mj 0 (lv_args 0 av) [] w with
        | none => rw [hc] at h; cases h
        | some x =>
          obtain ⟨rv, w1⟩ := x
          rw [hc] at h
          dsimp only at h
          have G1 := ih mi (pc + 3) (ex_tr mi (pc + 3) L) (rv.toList ++ r1) w1 r w9 hmi h p e R s m args below meth c Q D cI cZ sa A mc ms n0 F K hA hR hmc hms hret
          exact ex_call_G ih F K hA hR hmc hms ha hc (ex_gr _ _ _ _ _ _ _ _ h) (ex_G_less (fun q hq => ex_tr_mem hq) G1)
