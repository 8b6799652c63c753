/-! the start: both objects as their makers leave them; no call makes a cell -/
def ex_w1 : ex_W := [
  .inl (0, [.ref 1, .ref 3, .ref 5, .ref 15, .ref 22, .ref 27]),
  .inl (1, [.ref 2, .int 0]),
  .inr (0, List.replicate 124 0),
  .inl (1, [.ref 4, .int 0]),
  .inr (0, List.replicate 200 0),
  .inl (4, [.ref 6, .ref 8, .ref 10, .int 0, .int 0, .int 0, .int 0, .int 0, .int 0, .int 0]),
  .inl (1, [.ref 7, .int 0]),
  .inr (0, List.replicate 120 0),
  .inl (7, [.ref 9, .int 0, .int 0, .int 0, .int 0, .int 0, .int 0, .long 0, .long 0]),
  .inr (0, []),
  .inl (3, [.ref 11, .int 0, .ref 12, .ref 13, .ref 14, .int 0]),
  .inr (0, List.replicate 64 0),
  .inr (0, List.replicate 64 0),
  .inr (0, List.replicate 64 0),
  .inr (0, List.replicate 64 0),
  .inl (6, [.ref 16, .ref 18, .ref 20]),
  .inl (1, [.ref 17, .int 8]),
  .inr (0, [98, 108, 111, 99, 107, 32, 48, 10] ++ List.replicate 800 0),
  .inl (1, [.ref 19, .int 1]),
  .inr (0, 48 :: List.replicate 18 0),
  .inl (5, [.ref 21, .int 0]),
  .inr (0, List.replicate 120 0),
  .inl (2, [.ref 23, .ref 25, .ref 26]),
  .inl (1, [.ref 24, .int 6]),
  .inr (0, 77 :: List.replicate 123 0),
  .inr (0, [2, 3, 4, 5]),
  .inr (0, List.replicate 40 0),
  .inl (2, [.ref 28, .ref 30, .ref 31]),
  .inl (1, [.ref 29, .int 0]),
  .inr (0, List.replicate 124 0),
  .inr (0, [0, 0, 0, 0]),
  .inr (0, List.replicate 40 0)]
def ex_w2 : ex_W := [
  .inl (8, [.ref 33, .int 6, .ref 34, .int 0, .ref 35, .int 0, .ref 36, .int 0, .ref 37, .int 8, .ref 38, .ref 39, .ref 40, .ref 41, .int 0, .int 0, .int 0, .int 0, .int 0, .long 0, .int 0, .int 0, .int 0, .ref 42, .int 0, .ref 43, .ref 44, .ref 45, .int 0]),
  .inr (0, 77 :: List.replicate 129 0),
  .inr (0, List.replicate 140 0),
  .inr (0, List.replicate 124 0),
  .inr (0, List.replicate 200 0),
  .inr (0, [98, 108, 111, 99, 107, 32, 48, 10] ++ List.replicate 992 0),
  .inr (0, List.replicate 20 0),
  .inr (1, List.replicate 121 0),
  .inr (0, List.replicate 121 0),
  .inr (0, List.replicate 1000 0),
  .inr (0, List.replicate 100 0),
  .inr (0, List.replicate 60 0),
  .inr (0, List.replicate 60 0),
  .inr (0, List.replicate 60 0)]
def ex_w0 : ex_W := ex_w1 ++ ex_w2
def ex_eqC : ex_C → ex_C → Bool
  | .inl a, .inl b => decide (a = b)
  | .inr a, .inr b => decide (a = b)
  | _, _ => false
theorem ex_eqC_s {a b : ex_C} (h : ex_eqC a b = true) : a = b := by
  cases a <;> cases b
  · exact congrArg Sum.inl (of_decide_eq_true h)
  · cases h
  · cases h
  · exact congrArg Sum.inr (of_decide_eq_true h)
def ex_eqW : ex_W → ex_W → Bool
  | [], [] => true
  | a :: s, b :: t => ex_eqC a b && ex_eqW s t
  | _, _ => false
theorem ex_eqW_s : ∀ {a b : ex_W}, ex_eqW a b = true → a = b
  | [], [], _ => rfl
  | a :: s, b :: t, h => by
    obtain ⟨h1, h2⟩ := (Bool.and_eq_true _ _).mp h
    rw [ex_eqC_s h1, ex_eqW_s h2]
  | [], _ :: _, h => by cases h
  | _ :: _, [], h => by cases h
/-- a run's end, compared -/
def ex_chk (o : ex_O) (r : Option Value) (w : ex_W) : Bool := match o with
  | some q => decide (q.1 = r) && ex_eqW q.2 w
  | none => false
theorem ex_chk_s {o : ex_O} {r : Option Value} {w : ex_W} (h : ex_chk o r w = true) : o = some (r, w) := by
  unfold ex_chk at h
  split at h
  next q =>
    obtain ⟨h1, h2⟩ := (Bool.and_eq_true _ _).mp h
    obtain ⟨a, b⟩ := q
    rw [show a = r from of_decide_eq_true h1, show b = w from ex_eqW_s h2]
  next => cases h
set_option maxRecDepth 100000 in
theorem ex_ctor1 : ex_run none 5000 1 0 (lv_args 0 [.ref 0]) [] [.inl (0, kB 0)] = some (none, ex_w1) := ex_chk_s (by decide +kernel)
set_option maxRecDepth 100000 in
theorem ex_ctor2 : ex_run none 5000 106 0 (lv_args 0 [.ref 32]) [] (ex_w1 ++ [.inl (8, kB 8)]) = some (none, ex_w0) := ex_chk_s (by decide +kernel)
theorem go_new {X : Option (List Int32)} {mi pc : Nat} {L L2 : ex_L} {r : List Value} {w : ex_W} {idx ci : Nat} (d : decode (kC mi) pc = .ok (.new idx, 3)) (hN : kN (kO mi) idx = some ci) (ht : ex_tr mi (pc + 3) L = L2) (hw : w.length < 1000) : ex_go X mi pc L r w = ex_go X mi (pc + 3) L2 (.ref w.length :: r) (w ++ [.inl (ci, kB ci)]) := by
  refine ex_go_d d rfl ?_ ht
  simp only [ex_do, hN]
  rw [if_pos hw]
theorem ex_begin (xs : List Int32) : ex_go (some xs) 0 0 [(0, .ref 1000)] [] [] = ex_go (some xs) 0 18 [(0, .ref 1000), (1, .ref 0), (2, .ref 32), (3, .int (nI 0))] [] ex_w0 := by
  have c1 := ex_call_up (xs := xs) (ex_call_run 5000 ex_ctor1)
  have c2 := ex_call_up (xs := xs) (ex_call_run 5000 ex_ctor2)
  rw [go_new (idx := 7) (ci := 0) (L2 := [(0, .ref 1000)]) (by decide +kernel : decode (kC 0) 0 = .ok (.new 7, 3)) (by decide +kernel) (ex_tr_n (by decide +kernel)) (by decide)]
  show ex_go (some xs) 0 3 [(0, .ref 1000)] [.ref 0] [.inl (0, kB 0)] = _
  simp only [s0_3, s0_4, c1, Option.bind_some, Option.toList_none, List.nil_append, s0_7]
  rw [go_new (idx := 10) (ci := 8) (L2 := [(0, .ref 1000), (1, .ref 0)]) (by decide +kernel : decode (kC 0) 8 = .ok (.new 10, 3)) (by decide +kernel) (ex_tr_n (by decide +kernel)) (by decide)]
  show ex_go (some xs) 0 11 [(0, .ref 1000), (1, .ref 0)] [.ref 32] (ex_w1 ++ [.inl (8, kB 8)]) = _
  simp only [s0_11, s0_12, c2, Option.bind_some, Option.toList_none, List.nil_append, s0_15, s0_16, s0_17]
  rfl
/-! a run that makes no cell keeps every cell's size -/
theorem ex_sz_pf {w w2 : ex_W} {h ci k : Nat} {v : Value} (hg : ex_pf w h ci k v = some w2) : w2.map ex_sz = w.map ex_sz ∨ w.length < w2.length := by
  obtain ⟨fs, hw, hk, rfl⟩ := ex_pf_s hg
  refine Or.inl ?_
  apply List.ext_getElem?
  intro i
  rw [List.getElem?_map, List.getElem?_map, List.getElem?_set]
  by_cases e : h = i
  · subst e
    rw [if_pos rfl, if_pos (List.getElem?_eq_some_iff.mp hw).1, hw]
    simp [ex_sz]
  · rw [if_neg e]
theorem ex_sz_as {w w2 : ex_W} {a kd : Nat} {i x : Int32} (hg : ex_as w a kd i x = some w2) : w2.map ex_sz = w.map ex_sz ∨ w.length < w2.length := by
  obtain ⟨xs, hw, hi, hk, rfl⟩ := ex_as_s hg
  refine Or.inl ?_
  apply List.ext_getElem?
  intro j
  rw [List.getElem?_map, List.getElem?_map, List.getElem?_set]
  by_cases e : a = j
  · subst e
    rw [if_pos rfl, if_pos (List.getElem?_eq_some_iff.mp hw).1, hw]
    simp [ex_sz]
  · rw [if_neg e]
set_option maxHeartbeats 4000000 in
theorem ex_do_sz {X : Option (List Int32)} {mi pc : Nat} {i : Jvm.ClassFile.Instr} {L : ex_L} {st : List Value} {w : ex_W} {pc1 : Nat} {L1 : ex_L} {st1 : List Value} {w1 : ex_W} (ha : ex_do X mi pc i L st w = some (.inl (pc1, L1, st1, w1))) : w1.map ex_sz = w.map ex_sz ∨ w.length < w1.length := by
  unfold ex_do at ha
  split at ha <;> (try simp only [ex_ldA, ex_ldI, ex_ldJ, ex_stA, ex_stI, ex_stJ, ex_ii, ex_jj, ex_ji, ex_j, ex_br] at ha) <;> (repeat' split at ha) <;> first
    | (exfalso; cases ha; done)
    | (cases ha; exact Or.inl rfl)
    | (cases ha; exact ex_sz_pf (by assumption))
    | (cases ha; exact ex_sz_as (by assumption))
    | (cases ha; exact Or.inr (by rw [List.length_append]; exact Nat.lt_succ_self _))
theorem ex_run_sz {X : Option (List Int32)} : ∀ (n mi pc : Nat) (L : ex_L) (st : List Value) (w : ex_W) (r : Option Value) (w9 : ex_W), ex_run X n mi pc L st w = some (r, w9) → w9.length = w.length → w9.map ex_sz = w.map ex_sz := by
  intro n
  induction n with
  | zero => intro mi pc L st w r w9 h; cases h
  | succ n ih =>
    intro mi pc L st w r w9 h hl
    rw [ex_run_s] at h
    cases ha : ex_act X mi pc L st w with
    | none => rw [ha] at h; cases h
    | some a =>
      rw [ha] at h
      rcases a with ⟨pc1, L1, st1, w1⟩ | r1 | ⟨mj, av, r1⟩
      · dsimp only at h
        have h1 := (ex_gr _ _ _ _ _ _ _ _ h).1
        have h2 : w1.map ex_sz = w.map ex_sz ∨ w.length < w1.length := by
          unfold ex_act at ha
          split at ha
          next i len hd =>
            split at ha
            next => exact ex_do_sz ha
            next => cases ha
          next => cases ha
        rcases h2 with h2 | h2
        · have e : w1.length = w.length := by
            have := congrArg List.length h2
            simpa using this
          rw [ih _ _ _ _ _ _ _ h (by omega), h2]
        · omega
      · cases h
        rfl
      · dsimp only at h
        cases hc : ex_run X n mj 0 (lv_args 0 av) [] w with
        | none => rw [hc] at h; cases h
        | some x =>
          obtain ⟨rv, w1⟩ := x
          rw [hc] at h
          dsimp only at h
          have h1 := (ex_gr _ _ _ _ _ _ _ _ hc).1
          have h2 := (ex_gr _ _ _ _ _ _ _ _ h).1
          rw [ih _ _ _ _ _ _ _ h (by omega), ih _ _ _ _ _ _ _ hc (by omega)]
theorem ex_sl0 : ex_sl ex_w0 ≤ 100000 ∧ ex_w0.length = 46 := by decide +kernel
/-- WHAT IS LEFT: a relation that holds at the start and that every call keeps -/
theorem ex_whole {I : Nat → ex_W → Prop} (hS : ∀ k, StepOK (I (k + 1)) (I k)) (hl : ∀ k w, I k w → w.length = 46) (K : Nat) (h0 : I K ex_w0) (xs : List Int32) (hx : xs.length < 3 * K + 3) (hb : xs.length < 2 ^ 20) : ∃ n w9, ex_run (some xs) n 0 0 [(0, .ref 1000)] [] [] = some (some (.int 1), w9) ∧ w9.length = 46 ∧ ex_sl w9 ≤ 100000 := by
  obtain ⟨w9, j, h9, e9⟩ := lw_loop hS hb K 0 ex_w0 h0 (Nat.zero_le _) (by omega)
  have h1 := (ex_go_iff _ _ _ _ _ _ _).mp e9
  rw [← ex_begin] at e9
  obtain ⟨n, hn⟩ := (ex_go_iff _ _ _ _ _ _ _).mp e9
  obtain ⟨n1, hn1⟩ := h1
  refine ⟨n, w9, hn, hl j w9 h9, ?_⟩
  have e := ex_run_sz _ _ _ _ _ _ _ _ hn1 ((hl j w9 h9).trans ex_sl0.2.symm)
  unfold ex_sl
  rw [e]
  exact ex_sl0.1
