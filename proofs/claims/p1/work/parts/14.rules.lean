/-! equations of the pure machine, an instruction each -/
section EXR
variable {X : Option (List Int32)} {mi pc : Nat} {L L1 : ex_L} {r : List Value} {w : ex_W}
theorem ex_tr_n (h : kK mi pc = none) : ex_tr mi pc L = L := by unfold ex_tr; rw [h]
theorem ex_tr_k {ks : List Nat} (h : kK mi pc = some ks) (h1 : ex_keep ks L = L1) : ex_tr mi pc L = L1 := by unfold ex_tr; rw [h]; exact h1
/-- one step -/
theorem ex_go_i {st st1 : List Value} {w1 : ex_W} {pc1 : Nat} {L2 : ex_L} (h : ex_act X mi pc L st w = some (.inl (pc1, L1, st1, w1))) (ht : ex_tr mi pc1 L1 = L2) : ex_go X mi pc L st w = ex_go X mi pc1 L2 st1 w1 := by
  rw [ex_go_eq, h, ← ht]
theorem ex_act_i {i : Jvm.ClassFile.Instr} {n : Nat} {st : List Value} (d : decode (kC mi) pc = .ok (i, n)) (hn : ex_lok i n = true) : ex_act X mi pc L st w = ex_do X mi pc i L st w := by
  unfold ex_act
  rw [d]
  show (if ex_lok i n = true then _ else _) = _
  rw [if_pos hn]
/-- a step that the instruction alone decides -/
theorem ex_go_d {i : Jvm.ClassFile.Instr} {n : Nat} {st st1 : List Value} {w1 : ex_W} {pc1 : Nat} {L2 : ex_L} (d : decode (kC mi) pc = .ok (i, n)) (hn : ex_lok i n = true) (h : ex_do X mi pc i L st w = some (.inl (pc1, L1, st1, w1))) (ht : ex_tr mi pc1 L1 = L2) : ex_go X mi pc L st w = ex_go X mi pc1 L2 st1 w1 :=
  ex_go_i ((ex_act_i d hn).trans h) ht
theorem ex_go_ret {i : Jvm.ClassFile.Instr} {n : Nat} {st : List Value} {v : Option Value} (d : decode (kC mi) pc = .ok (i, n)) (hn : ex_lok i n = true) (h : ex_do X mi pc i L st w = some (.inr (.inl v))) : ex_go X mi pc L st w = some (v, w) := by
  rw [ex_go_eq, ex_act_i d hn, h]
noncomputable def ex_call (X : Option (List Int32)) (mj : Nat) (av : List Value) (w : ex_W) : ex_O := ex_go X mj 0 (lv_args 0 av) [] w
theorem ex_go_call {i : Jvm.ClassFile.Instr} {n mj : Nat} {st av : List Value} {L2 : ex_L} (d : decode (kC mi) pc = .ok (i, n)) (hn : ex_lok i n = true) (h : ex_do X mi pc i L st w = some (.inr (.inr (mj, av, r)))) (ht : ex_tr mi (pc + 3) L = L2) : ex_go X mi pc L st w = (ex_call X mj av w).bind (fun q => ex_go X mi (pc + 3) L2 (q.1.toList ++ r) q.2) := by
  rw [ex_go_eq, ex_act_i d hn, h, ← ht]
  rfl
theorem ex_go_none {i : Jvm.ClassFile.Instr} {n : Nat} {st : List Value} (d : decode (kC mi) pc = .ok (i, n)) (hn : ex_lok i n = true) (h : ex_do X mi pc i L st w = none) : ex_go X mi pc L st w = none := by
  rw [ex_go_eq, ex_act_i d hn, h]
theorem go_br {c : Jvm.ClassFile.Cond} {off : Int} {x : Int32} {t : Nat} {L2 L3 : ex_L} (d : decode (kC mi) pc = .ok (.ifCond c off, 3)) (hj : (pc : Int) + off = (t : Int)) (h1 : ex_tr mi t L = L2) (h2 : ex_tr mi (pc + 3) L = L3) : ex_go X mi pc L (.int x :: r) w = if ex_cb c x 0 = true then ex_go X mi t L2 r w else ex_go X mi (pc + 3) L3 r w := by
  rw [ex_go_eq, ex_act_i d rfl]
  have e : ex_do X mi pc (.ifCond c off) L (.int x :: r) w = some (.inl (if ex_cb c x 0 = true then t else pc + 3, L, r, w)) := by
    show ex_br pc off (ex_cb c x 0) L r w = _
    unfold ex_br
    rw [hj, if_pos (Int.natCast_nonneg t), Int.toNat_natCast]
  rw [e]
  dsimp only
  by_cases hc : ex_cb c x 0 = true
  · rw [if_pos hc, if_pos hc, h1]
  · rw [if_neg hc, if_neg hc, h2]
theorem go_br2 {c : Jvm.ClassFile.Cond} {off : Int} {x y : Int32} {t : Nat} {L2 L3 : ex_L} (d : decode (kC mi) pc = .ok (.if_icmp c off, 3)) (hj : (pc : Int) + off = (t : Int)) (h1 : ex_tr mi t L = L2) (h2 : ex_tr mi (pc + 3) L = L3) : ex_go X mi pc L (.int y :: .int x :: r) w = if ex_cb c x y = true then ex_go X mi t L2 r w else ex_go X mi (pc + 3) L3 r w := by
  rw [ex_go_eq, ex_act_i d rfl]
  have e : ex_do X mi pc (.if_icmp c off) L (.int y :: .int x :: r) w = some (.inl (if ex_cb c x y = true then t else pc + 3, L, r, w)) := by
    show ex_br pc off (ex_cb c x y) L r w = _
    unfold ex_br
    rw [hj, if_pos (Int.natCast_nonneg t), Int.toNat_natCast]
  rw [e]
  dsimp only
  by_cases hc : ex_cb c x y = true
  · rw [if_pos hc, if_pos hc, h1]
  · rw [if_neg hc, if_neg hc, h2]
theorem go_goto {off : Int} {t : Nat} {st : List Value} {L2 : ex_L} (d : decode (kC mi) pc = .ok (.goto off, 3)) (hj : (pc : Int) + off = (t : Int)) (h1 : ex_tr mi t L = L2) : ex_go X mi pc L st w = ex_go X mi t L2 st w := by
  refine ex_go_d d rfl ?_ h1
  show ex_j pc off L st w = _
  unfold ex_j
  rw [hj, if_pos (Int.natCast_nonneg t), Int.toNat_natCast]
theorem go_getf {idx ci k : Nat} {ne : Bool} {h : Nat} {L2 : ex_L} (d : decode (kC mi) pc = .ok (.getfield idx, 3)) (hF : kF (kO mi) idx = some (ci, k, ne)) (ht : ex_tr mi (pc + 3) L = L2) (hh : h < 1000) : ex_go X mi pc L (.ref h :: r) w = (ex_gf w h ci k).bind (fun v => ex_go X mi (pc + 3) L2 (v :: r) w) := by
  cases hg : ex_gf w h ci k with
  | none =>
    refine ex_go_none d rfl ?_
    simp only [ex_do]
    rw [if_pos hh, hF]
    simp only [hg]
  | some v =>
    refine ex_go_d d rfl ?_ ht
    simp only [ex_do]
    rw [if_pos hh, hF]
    simp only [hg]
theorem go_putf {idx ci k : Nat} {ne : Bool} {h : Nat} {v : Value} {L2 : ex_L} (d : decode (kC mi) pc = .ok (.putfield idx, 3)) (hF : kF (kO mi) idx = some (ci, k, ne)) (hv : narrow (kT ci k) v = v ∧ fits (kT ci k) v = true ∧ (kQ ci k = true → kN0 mi = true ∧ ne = false ∧ kD ci = kO mi)) (ht : ex_tr mi (pc + 3) L = L2) (hh : h < 1000) : ex_go X mi pc L (v :: .ref h :: r) w = (ex_pf w h ci k v).bind (fun w1 => ex_go X mi (pc + 3) L2 r w1) := by
  cases hg : ex_pf w h ci k v with
  | none =>
    refine ex_go_none d rfl ?_
    simp only [ex_do]
    rw [if_pos hh, hF]
    simp only [hg]
    rw [if_pos hv]
  | some w1 =>
    refine ex_go_d d rfl ?_ ht
    simp only [ex_do]
    rw [if_pos hh, hF]
    simp only [hg]
    rw [if_pos hv]
theorem go_alen {a : Nat} {L2 : ex_L} (d : decode (kC mi) pc = .ok (.arraylength, 1)) (ht : ex_tr mi (pc + 1) L = L2) (hh : a < 1000) : ex_go X mi pc L (.ref a :: r) w = (ex_an w a).bind (fun v => ex_go X mi (pc + 1) L2 (.int v :: r) w) := by
  cases hg : ex_an w a with
  | none =>
    refine ex_go_none d rfl ?_
    simp only [ex_do, if_pos hh, hg]
  | some v =>
    refine ex_go_d d rfl ?_ ht
    simp only [ex_do, if_pos hh, hg]
theorem go_iald {a : Nat} {i : Int32} {L2 : ex_L} (d : decode (kC mi) pc = .ok (.iaload, 1)) (ht : ex_tr mi (pc + 1) L = L2) (hh : a < 1000) : ex_go X mi pc L (.int i :: .ref a :: r) w = (ex_al w a 0 i).bind (fun v => ex_go X mi (pc + 1) L2 (.int v :: r) w) := by
  cases hg : ex_al w a 0 i with
  | none =>
    refine ex_go_none d rfl ?_
    simp only [ex_do, if_pos hh, hg]
  | some v =>
    refine ex_go_d d rfl ?_ ht
    simp only [ex_do, if_pos hh, hg]
theorem go_bald {a : Nat} {i : Int32} {L2 : ex_L} (d : decode (kC mi) pc = .ok (.baload, 1)) (ht : ex_tr mi (pc + 1) L = L2) (hh : a < 1000) : ex_go X mi pc L (.int i :: .ref a :: r) w = (ex_al w a 1 i).bind (fun v => ex_go X mi (pc + 1) L2 (.int v :: r) w) := by
  cases hg : ex_al w a 1 i with
  | none =>
    refine ex_go_none d rfl ?_
    simp only [ex_do, if_pos hh, hg]
  | some v =>
    refine ex_go_d d rfl ?_ ht
    simp only [ex_do, if_pos hh, hg]
theorem go_iast {a : Nat} {i x : Int32} {L2 : ex_L} (d : decode (kC mi) pc = .ok (.iastore, 1)) (ht : ex_tr mi (pc + 1) L = L2) (hh : a < 1000) : ex_go X mi pc L (.int x :: .int i :: .ref a :: r) w = (ex_as w a 0 i x).bind (fun w1 => ex_go X mi (pc + 1) L2 r w1) := by
  cases hg : ex_as w a 0 i x with
  | none =>
    refine ex_go_none d rfl ?_
    simp only [ex_do, if_pos hh, hg]
  | some v =>
    refine ex_go_d d rfl ?_ ht
    simp only [ex_do, if_pos hh, hg]
theorem go_bast {a : Nat} {i x : Int32} {L2 : ex_L} (d : decode (kC mi) pc = .ok (.bastore, 1)) (ht : ex_tr mi (pc + 1) L = L2) (hh : a < 1000) (hx : vp_nar .boolean x = x) : ex_go X mi pc L (.int x :: .int i :: .ref a :: r) w = (ex_as w a 1 i x).bind (fun w1 => ex_go X mi (pc + 1) L2 r w1) := by
  cases hg : ex_as w a 1 i x with
  | none =>
    refine ex_go_none d rfl ?_
    simp only [ex_do, if_pos (And.intro hh hx), hg]
  | some v =>
    refine ex_go_d d rfl ?_ ht
    simp only [ex_do, if_pos (And.intro hh hx), hg]
/-- the script itself -/
theorem go_slen {xs : List Int32} {L2 : ex_L} (d : decode (kC mi) pc = .ok (.arraylength, 1)) (ht : ex_tr mi (pc + 1) L = L2) : ex_go (some xs) mi pc L (.ref 1000 :: r) w = ex_go (some xs) mi (pc + 1) L2 (.int (Int32.ofNat xs.length) :: r) w := ex_go_d d rfl rfl ht
theorem go_sld {xs : List Int32} {i : Int32} {L2 : ex_L} (d : decode (kC mi) pc = .ok (.iaload, 1)) (ht : ex_tr mi (pc + 1) L = L2) (hi : ¬ i < 0) : ex_go (some xs) mi pc L (.int i :: .ref 1000 :: r) w = (xs[i.toNatClampNeg]?).bind (fun v => ex_go (some xs) mi (pc + 1) L2 (.int v :: r) w) := by
  cases hg : xs[i.toNatClampNeg]? with
  | none =>
    refine ex_go_none d rfl ?_
    simp only [ex_do]
    rw [if_neg (by decide), if_pos (And.intro trivial hi)]
    simp only [hg]
  | some v =>
    refine ex_go_d d rfl ?_ ht
    simp only [ex_do]
    rw [if_neg (by decide), if_pos (And.intro trivial hi)]
    simp only [hg]
theorem go_virt {idx mj h : Nat} {st av rs : List Value} {L2 : ex_L} (d : decode (kC mi) pc = .ok (.invokevirtual idx, 3)) (hM : kM (kO mi) idx = some (mj, 0)) (hp : ex_pop (kA mj) st = some (.ref h :: av, rs)) (hl : ex_lv mi mj (.ref h :: av) rs = true) (ht : ex_tr mi (pc + 3) L = L2) (hr : ex_rc w h (kH mj) = true) : ex_go X mi pc L st w = (ex_call X mj (.ref h :: av) w).bind (fun q => ex_go X mi (pc + 3) L2 (q.1.toList ++ rs) q.2) := by
  refine ex_go_call d rfl ?_ ht
  simp only [ex_do, hM, hp]
  rw [if_pos (And.intro hl hr)]
theorem go_spec {idx mj h : Nat} {st av rs : List Value} {L2 : ex_L} (d : decode (kC mi) pc = .ok (.invokespecial idx, 3)) (hM : kM (kO mi) idx = some (mj, 2)) (hp : ex_pop (kA mj) st = some (.ref h :: av, rs)) (hl : ex_lv mi mj (.ref h :: av) rs = true) (ht : ex_tr mi (pc + 3) L = L2) : ex_go X mi pc L st w = (ex_call X mj (.ref h :: av) w).bind (fun q => ex_go X mi (pc + 3) L2 (q.1.toList ++ rs) q.2) := by
  refine ex_go_call d rfl ?_ ht
  simp only [ex_do, hM, hp]
  rw [if_pos hl]
theorem go_stat {idx mj : Nat} {st av rs : List Value} {L2 : ex_L} (d : decode (kC mi) pc = .ok (.invokestatic idx, 3)) (hM : kM (kO mi) idx = some (mj, 1)) (hp : ex_pop (kA mj) st = some (av, rs)) (hl : ex_lv mi mj av rs = true) (ht : ex_tr mi (pc + 3) L = L2) : ex_go X mi pc L st w = (ex_call X mj av w).bind (fun q => ex_go X mi (pc + 3) L2 (q.1.toList ++ rs) q.2) := by
  refine ex_go_call d rfl ?_ ht
  simp only [ex_do, hM, hp]
  rw [if_pos hl]
theorem go_min {idx mj : Nat} {x y : Int32} {L2 : ex_L} (d : decode (kC mi) pc = .ok (.invokestatic idx, 3)) (hM : kM (kO mi) idx = some (mj, 5)) (hl : (r.map Value.category).sum ≤ 8 ∧ 1 ≤ kV mi ∧ 21 ≤ kW mi) (ht : ex_tr mi (pc + 3) L = L2) : ex_go X mi pc L (.int y :: .int x :: r) w = ex_go X mi (pc + 3) L2 (.int (if y < x then y else x) :: r) w := by
  refine ex_go_d d rfl ?_ ht
  simp only [ex_do, hM]
  rw [if_pos hl]
theorem go_obj {idx mj a : Nat} {L2 : ex_L} (d : decode (kC mi) pc = .ok (.invokespecial idx, 3)) (hM : kM (kO mi) idx = some (mj, 6)) (hl : (r.map Value.category).sum ≤ 8 ∧ 1 ≤ kV mi ∧ 20 ≤ kW mi) (ht : ex_tr mi (pc + 3) L = L2) : ex_go X mi pc L (.ref a :: r) w = ex_go X mi (pc + 3) L2 r w := by
  refine ex_go_d d rfl ?_ ht
  simp only [ex_do, hM]
  rw [if_pos hl]
theorem go_tsw {d0 lo hi : Int} {offs : Array Int} {n : Nat} {x : Int32} {t : Nat} {L2 : ex_L} (d : decode (kC mi) pc = .ok (.tableswitch d0 lo hi offs, n)) (hk : ¬ (lo < -2147483648 ∨ hi ≥ 2147483648 ∨ lo + offs.toList.length ≠ hi + 1)) (hj : (pc : Int) + ex_sw x offs.toList lo d0 = (t : Int)) (ht : ex_tr mi t L = L2) : ex_go X mi pc L (.int x :: r) w = ex_go X mi t L2 r w := by
  refine ex_go_d d rfl ?_ ht
  simp only [ex_do]
  rw [if_neg hk]
  unfold ex_j
  rw [hj, if_pos (Int.natCast_nonneg t), Int.toNat_natCast]
theorem go_lsw {d0 : Int} {ps : Array (Int × Int)} {n : Nat} {x : Int32} {t : Nat} {L2 : ex_L} (d : decode (kC mi) pc = .ok (.lookupswitch d0 ps, n)) (hk : ((ps.toList.zip (ps.toList.drop 1)).all (fun (a, nx) => a.1 < nx.1) && ps.toList.all (fun q => decide (-2147483648 ≤ q.1 ∧ q.1 < 2147483648))) = true) (hj : (pc : Int) + ex_ls x ps.toList d0 = (t : Int)) (ht : ex_tr mi t L = L2) : ex_go X mi pc L (.int x :: r) w = ex_go X mi t L2 r w := by
  refine ex_go_d d rfl ?_ ht
  simp only [ex_do]
  rw [if_pos hk]
  unfold ex_j
  rw [hj, if_pos (Int.natCast_nonneg t), Int.toNat_natCast]
end EXR
/-- without the script: what is said without it holds with any -/
theorem ex_act_up {xs : List Int32} {mi pc : Nat} {L : ex_L} {st : List Value} {w : ex_W} {a : ex_A} (h : ex_act none mi pc L st w = some a) : ex_act (some xs) mi pc L st w = some a := by
  unfold ex_act at h ⊢
  split at h
  next i len hd =>
    split at h
    next hk =>
      rw [if_pos hk]
      cases i with
      | arraylength =>
        simp only [ex_do] at h ⊢
        split at h
        next a2 r =>
          split at h
          next z =>
            rw [if_pos z]
            exact h
          next z =>
            rw [if_neg z]
            split at h
            next => cases h
            next z2 =>
              rw [if_neg z2]
              exact h
        next => cases h
      | iaload =>
        simp only [ex_do] at h ⊢
        split at h
        next i2 a2 r =>
          split at h
          next z =>
            rw [if_pos z]
            exact h
          next z =>
            rw [if_neg z]
            split at h <;> cases h
        next => cases h
      | newarray a => cases a <;> exact h
      | _ => exact h
    next => cases h
  next => cases h
theorem ex_run_up {xs : List Int32} : ∀ (n mi pc : Nat) (L : ex_L) (st : List Value) (w : ex_W) (q : Option Value × ex_W), ex_run none n mi pc L st w = some q → ex_run (some xs) n mi pc L st w = some q := by
  intro n
  induction n with
  | zero => intro mi pc L st w q h; cases h
  | succ n ih =>
    intro mi pc L st w q h
    rw [ex_run_s] at h ⊢
    cases ha : ex_act none mi pc L st w with
    | none => rw [ha] at h; cases h
    | some a =>
      rw [ha] at h
      rw [ex_act_up ha]
      rcases a with ⟨pc1, L1, st1, w1⟩ | r | ⟨mj, av, r⟩
      · exact ih _ _ _ _ _ _ h
      · exact h
      · dsimp only at h ⊢
        cases hc : ex_run none n mj 0 (lv_args 0 av) [] w with
        | none => rw [hc] at h; cases h
        | some x =>
          obtain ⟨rv, w1⟩ := x
          rw [hc] at h
          rw [ih _ _ _ _ _ _ hc]
          exact ih _ _ _ _ _ _ h
theorem ex_call_up {xs : List Int32} {mj : Nat} {av : List Value} {w : ex_W} {q : Option Value × ex_W} (h : ex_call none mj av w = some q) : ex_call (some xs) mj av w = some q := by
  obtain ⟨n, hn⟩ := (ex_go_iff _ _ _ _ _ _ _).mp h
  exact (ex_go_iff _ _ _ _ _ _ _).mpr ⟨n, ex_run_up _ _ _ _ _ _ _ hn⟩
theorem ex_call_run {mj : Nat} {av : List Value} {w : ex_W} {q : Option Value × ex_W} (n : Nat) (h : ex_run none n mj 0 (lv_args 0 av) [] w = some q) : ex_call none mj av w = some q := (ex_go_iff _ _ _ _ _ _ _).mpr ⟨n, h⟩
