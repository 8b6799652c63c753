/-! more equations, and small helps for the rules by address -/
section EXQ
variable {X : Option (List Int32)} {mi pc : Nat} {L L1 L2 : ex_L} {r : List Value} {w : ex_W}
theorem go_stI {ins : Jvm.ClassFile.Instr} {i pc1 n : Nat} {x : Int32} (d : decode (kC mi) pc = .ok (ins, n)) (hi : ex_do X mi pc ins L (.int x :: r) w = ex_stI mi pc1 L (.int x :: r) w i) (hl : i < kL mi) (hs : ex_set L i (.int x) = L1) (ht : ex_tr mi pc1 L1 = L2) (hn : ex_lok ins n = true := by rfl) : ex_go X mi pc L (.int x :: r) w = ex_go X mi pc1 L2 r w := by
  refine ex_go_d d hn ?_ ht
  rw [hi]
  unfold ex_stI
  dsimp only
  rw [if_pos hl, hs]
theorem go_stJ {ins : Jvm.ClassFile.Instr} {i pc1 n : Nat} {x : Int64} (d : decode (kC mi) pc = .ok (ins, n)) (hi : ex_do X mi pc ins L (.long x :: r) w = ex_stJ mi pc1 L (.long x :: r) w i) (hl : i + 1 < kL mi) (hs : ex_set L i (.long x) = L1) (ht : ex_tr mi pc1 L1 = L2) (hn : ex_lok ins n = true := by rfl) : ex_go X mi pc L (.long x :: r) w = ex_go X mi pc1 L2 r w := by
  refine ex_go_d d hn ?_ ht
  rw [hi]
  unfold ex_stJ
  dsimp only
  rw [if_pos hl, hs]
theorem go_stA {ins : Jvm.ClassFile.Instr} {i pc1 n : Nat} {x : Nat} (d : decode (kC mi) pc = .ok (ins, n)) (hi : ex_do X mi pc ins L (.ref x :: r) w = ex_stA mi pc1 L (.ref x :: r) w i) (hl : i < kL mi) (hs : ex_set L i (.ref x) = L1) (ht : ex_tr mi pc1 L1 = L2) (hn : ex_lok ins n = true := by rfl) : ex_go X mi pc L (.ref x :: r) w = ex_go X mi pc1 L2 r w := by
  refine ex_go_d d hn ?_ ht
  rw [hi]
  unfold ex_stA
  dsimp only
  rw [if_pos hl, hs]
theorem go_iconst {n : Int} {v : Int32} (d : decode (kC mi) pc = .ok (.iconst n, 1)) (hv : Int32.ofInt n = v) (ht : ex_tr mi (pc + 1) L = L2) : ex_go X mi pc L r w = ex_go X mi (pc + 1) L2 (.int v :: r) w := by
  subst hv
  exact ex_go_d d rfl rfl ht
theorem go_bipush {n : Int} {v : Int32} (d : decode (kC mi) pc = .ok (.bipush n, 2)) (hv : (Int8.ofInt n).toInt32 = v) (ht : ex_tr mi (pc + 2) L = L2) : ex_go X mi pc L r w = ex_go X mi (pc + 2) L2 (.int v :: r) w := by
  subst hv
  exact ex_go_d d rfl rfl ht
theorem go_sipush {n : Int} {v : Int32} (d : decode (kC mi) pc = .ok (.sipush n, 3)) (hv : (Int16.ofInt n).toInt32 = v) (ht : ex_tr mi (pc + 3) L = L2) : ex_go X mi pc L r w = ex_go X mi (pc + 3) L2 (.int v :: r) w := by
  subst hv
  exact ex_go_d d rfl rfl ht
theorem go_lconst {n : Fin 2} {v : Int64} (d : decode (kC mi) pc = .ok (.lconst n, 1)) (hv : Int64.ofNat n = v) (ht : ex_tr mi (pc + 1) L = L2) : ex_go X mi pc L r w = ex_go X mi (pc + 1) L2 (.long v :: r) w := by
  subst hv
  exact ex_go_d d rfl rfl ht
theorem go_ldc2 {idx : Nat} {v : Int64} (d : decode (kC mi) pc = .ok (.ldc2_w idx, 3)) (hv : kJ (kO mi) idx = some v) (ht : ex_tr mi (pc + 3) L = L2) : ex_go X mi pc L r w = ex_go X mi (pc + 3) L2 (.long v :: r) w := by
  refine ex_go_d d rfl ?_ ht
  simp only [ex_do, hv]
theorem go_ldcI {idx : Nat} {v : Int32} (d : decode (kC mi) pc = .ok (.ldc idx, 2)) (hv : kI (kO mi) idx = some v) (ht : ex_tr mi (pc + 2) L = L2) : ex_go X mi pc L r w = ex_go X mi (pc + 2) L2 (.int v :: r) w := by
  refine ex_go_d d rfl ?_ ht
  simp only [ex_do, hv]
theorem go_ldcS {idx j : Nat} (d : decode (kC mi) pc = .ok (.ldc idx, 2)) (hv : kI (kO mi) idx = none) (hs : kS (kO mi) idx = some j) (ht : ex_tr mi (pc + 2) L = L2) : ex_go X mi pc L r w = ex_go X mi (pc + 2) L2 (.ref (1001 + j) :: r) w := by
  refine ex_go_d d rfl ?_ ht
  simp only [ex_do, hv, hs]
theorem go_iinc {i : Nat} {n : Int} {x v : Int32} (d : decode (kC mi) pc = .ok (.iinc i n, 3)) (hg : ex_get L i = some (.int x)) (hv : x + Int32.ofInt n = x + v) (hc : Int32.ofInt n = v) (hl : i < kL mi) (hs : ex_set L i (.int (x + v)) = L1) (ht : ex_tr mi (pc + 3) L1 = L2) : ex_go X mi pc L r w = ex_go X mi (pc + 3) L2 r w := by
  refine ex_go_d d rfl ?_ ht
  simp only [ex_do, hg, hc]
  rw [if_pos hl, hs]
theorem go_idiv {x y : Int32} (d : decode (kC mi) pc = .ok (.idiv, 1)) (ht : ex_tr mi (pc + 1) L = L2) (hz : ¬ y = 0) : ex_go X mi pc L (.int y :: .int x :: r) w = ex_go X mi (pc + 1) L2 (.int (x / y) :: r) w := by
  refine ex_go_d d rfl ?_ ht
  simp only [ex_do]
  rw [if_neg hz]
theorem go_irem {x y : Int32} (d : decode (kC mi) pc = .ok (.irem, 1)) (ht : ex_tr mi (pc + 1) L = L2) (hz : ¬ y = 0) : ex_go X mi pc L (.int y :: .int x :: r) w = ex_go X mi (pc + 1) L2 (.int (x - x / y * y) :: r) w := by
  refine ex_go_d d rfl ?_ ht
  simp only [ex_do]
  rw [if_neg hz]
theorem go_ldiv {x y : Int64} (d : decode (kC mi) pc = .ok (.ldiv, 1)) (ht : ex_tr mi (pc + 1) L = L2) (hz : ¬ y = 0) : ex_go X mi pc L (.long y :: .long x :: r) w = ex_go X mi (pc + 1) L2 (.long (x / y) :: r) w := by
  refine ex_go_d d rfl ?_ ht
  simp only [ex_do]
  rw [if_neg hz]
theorem go_lrem {x y : Int64} (d : decode (kC mi) pc = .ok (.lrem, 1)) (ht : ex_tr mi (pc + 1) L = L2) (hz : ¬ y = 0) : ex_go X mi pc L (.long y :: .long x :: r) w = ex_go X mi (pc + 1) L2 (.long (x - x / y * y) :: r) w := by
  refine ex_go_d d rfl ?_ ht
  simp only [ex_do]
  rw [if_neg hz]
theorem go_if_eq {off : Int} {x : Int32} {t : Nat} {L3 : ex_L} (d : decode (kC mi) pc = .ok (.ifCond .eq off, 3)) (hj : (pc : Int) + off = (t : Int)) (h1 : ex_tr mi t L = L2) (h2 : ex_tr mi (pc + 3) L = L3) : ex_go X mi pc L (.int x :: r) w = if x = 0 then ex_go X mi t L2 r w else ex_go X mi (pc + 3) L3 r w := by
  rw [go_br d hj h1 h2]
  simp only [ex_cb, decide_eq_true_eq]
theorem go_icmp_eq {off : Int} {x y : Int32} {t : Nat} {L3 : ex_L} (d : decode (kC mi) pc = .ok (.if_icmp .eq off, 3)) (hj : (pc : Int) + off = (t : Int)) (h1 : ex_tr mi t L = L2) (h2 : ex_tr mi (pc + 3) L = L3) : ex_go X mi pc L (.int y :: .int x :: r) w = if x = y then ex_go X mi t L2 r w else ex_go X mi (pc + 3) L3 r w := by
  rw [go_br2 d hj h1 h2]
  simp only [ex_cb, decide_eq_true_eq]
theorem go_if_ne {off : Int} {x : Int32} {t : Nat} {L3 : ex_L} (d : decode (kC mi) pc = .ok (.ifCond .ne off, 3)) (hj : (pc : Int) + off = (t : Int)) (h1 : ex_tr mi t L = L2) (h2 : ex_tr mi (pc + 3) L = L3) : ex_go X mi pc L (.int x :: r) w = if ¬ x = 0 then ex_go X mi t L2 r w else ex_go X mi (pc + 3) L3 r w := by
  rw [go_br d hj h1 h2]
  simp only [ex_cb, decide_eq_true_eq]
theorem go_icmp_ne {off : Int} {x y : Int32} {t : Nat} {L3 : ex_L} (d : decode (kC mi) pc = .ok (.if_icmp .ne off, 3)) (hj : (pc : Int) + off = (t : Int)) (h1 : ex_tr mi t L = L2) (h2 : ex_tr mi (pc + 3) L = L3) : ex_go X mi pc L (.int y :: .int x :: r) w = if ¬ x = y then ex_go X mi t L2 r w else ex_go X mi (pc + 3) L3 r w := by
  rw [go_br2 d hj h1 h2]
  simp only [ex_cb, decide_eq_true_eq]
theorem go_if_lt {off : Int} {x : Int32} {t : Nat} {L3 : ex_L} (d : decode (kC mi) pc = .ok (.ifCond .lt off, 3)) (hj : (pc : Int) + off = (t : Int)) (h1 : ex_tr mi t L = L2) (h2 : ex_tr mi (pc + 3) L = L3) : ex_go X mi pc L (.int x :: r) w = if x < 0 then ex_go X mi t L2 r w else ex_go X mi (pc + 3) L3 r w := by
  rw [go_br d hj h1 h2]
  simp only [ex_cb, decide_eq_true_eq]
theorem go_icmp_lt {off : Int} {x y : Int32} {t : Nat} {L3 : ex_L} (d : decode (kC mi) pc = .ok (.if_icmp .lt off, 3)) (hj : (pc : Int) + off = (t : Int)) (h1 : ex_tr mi t L = L2) (h2 : ex_tr mi (pc + 3) L = L3) : ex_go X mi pc L (.int y :: .int x :: r) w = if x < y then ex_go X mi t L2 r w else ex_go X mi (pc + 3) L3 r w := by
  rw [go_br2 d hj h1 h2]
  simp only [ex_cb, decide_eq_true_eq]
theorem go_if_ge {off : Int} {x : Int32} {t : Nat} {L3 : ex_L} (d : decode (kC mi) pc = .ok (.ifCond .ge off, 3)) (hj : (pc : Int) + off = (t : Int)) (h1 : ex_tr mi t L = L2) (h2 : ex_tr mi (pc + 3) L = L3) : ex_go X mi pc L (.int x :: r) w = if 0 ≤ x then ex_go X mi t L2 r w else ex_go X mi (pc + 3) L3 r w := by
  rw [go_br d hj h1 h2]
  simp only [ex_cb, decide_eq_true_eq]
theorem go_icmp_ge {off : Int} {x y : Int32} {t : Nat} {L3 : ex_L} (d : decode (kC mi) pc = .ok (.if_icmp .ge off, 3)) (hj : (pc : Int) + off = (t : Int)) (h1 : ex_tr mi t L = L2) (h2 : ex_tr mi (pc + 3) L = L3) : ex_go X mi pc L (.int y :: .int x :: r) w = if y ≤ x then ex_go X mi t L2 r w else ex_go X mi (pc + 3) L3 r w := by
  rw [go_br2 d hj h1 h2]
  simp only [ex_cb, decide_eq_true_eq]
theorem go_if_gt {off : Int} {x : Int32} {t : Nat} {L3 : ex_L} (d : decode (kC mi) pc = .ok (.ifCond .gt off, 3)) (hj : (pc : Int) + off = (t : Int)) (h1 : ex_tr mi t L = L2) (h2 : ex_tr mi (pc + 3) L = L3) : ex_go X mi pc L (.int x :: r) w = if 0 < x then ex_go X mi t L2 r w else ex_go X mi (pc + 3) L3 r w := by
  rw [go_br d hj h1 h2]
  simp only [ex_cb, decide_eq_true_eq]
theorem go_icmp_gt {off : Int} {x y : Int32} {t : Nat} {L3 : ex_L} (d : decode (kC mi) pc = .ok (.if_icmp .gt off, 3)) (hj : (pc : Int) + off = (t : Int)) (h1 : ex_tr mi t L = L2) (h2 : ex_tr mi (pc + 3) L = L3) : ex_go X mi pc L (.int y :: .int x :: r) w = if y < x then ex_go X mi t L2 r w else ex_go X mi (pc + 3) L3 r w := by
  rw [go_br2 d hj h1 h2]
  simp only [ex_cb, decide_eq_true_eq]
theorem go_if_le {off : Int} {x : Int32} {t : Nat} {L3 : ex_L} (d : decode (kC mi) pc = .ok (.ifCond .le off, 3)) (hj : (pc : Int) + off = (t : Int)) (h1 : ex_tr mi t L = L2) (h2 : ex_tr mi (pc + 3) L = L3) : ex_go X mi pc L (.int x :: r) w = if x ≤ 0 then ex_go X mi t L2 r w else ex_go X mi (pc + 3) L3 r w := by
  rw [go_br d hj h1 h2]
  simp only [ex_cb, decide_eq_true_eq]
theorem go_icmp_le {off : Int} {x y : Int32} {t : Nat} {L3 : ex_L} (d : decode (kC mi) pc = .ok (.if_icmp .le off, 3)) (hj : (pc : Int) + off = (t : Int)) (h1 : ex_tr mi t L = L2) (h2 : ex_tr mi (pc + 3) L = L3) : ex_go X mi pc L (.int y :: .int x :: r) w = if x ≤ y then ex_go X mi t L2 r w else ex_go X mi (pc + 3) L3 r w := by
  rw [go_br2 d hj h1 h2]
  simp only [ex_cb, decide_eq_true_eq]
theorem go_return (d : decode (kC mi) pc = .ok (.return_, 1)) (hR : kR mi = none) : ex_go X mi pc L [] w = some (none, w) := by
  refine ex_go_ret d rfl ?_
  simp only [ex_do, hR]
theorem go_lreturn {x : Int64} (d : decode (kC mi) pc = .ok (.lreturn, 1)) (hR : kR mi = some .long) : ex_go X mi pc L [.long x] w = some (some (.long x), w) := by
  refine ex_go_ret d rfl ?_
  simp only [ex_do, hR]
theorem go_areturn {x : Nat} {nm : String} (d : decode (kC mi) pc = .ok (.areturn, 1)) (hR : kR mi = some (.object nm)) : ex_go X mi pc L [.ref x] w = some (some (.ref x), w) := by
  refine ex_go_ret d rfl ?_
  simp only [ex_do, hR]
theorem go_ireturn {x : Int32} {ty : FieldType} (d : decode (kC mi) pc = .ok (.ireturn, 1)) (hR : kR mi = some ty) (hn : narrow ty (.int x) = .int x) : ex_go X mi pc L [.int x] w = some (some (.int x), w) := by
  refine ex_go_ret d rfl ?_
  simp only [ex_do, hR]
  rw [if_pos hn]
theorem ex_nz {x : Int32} (h : x = 0 ∨ x = 1) : narrow .boolean (.int x) = .int x := by rcases h with rfl | rfl <;> rfl
theorem ex_nb {x : Int32} (h : x = 0 ∨ x = 1) : vp_nar .boolean x = x := by rcases h with rfl | rfl <;> rfl
theorem ex_bool {ty : FieldType} {x : Int32} {P : Prop} (ht : ty = .boolean) (h : x = 0 ∨ x = 1) (hp : P) : narrow ty (.int x) = .int x ∧ fits ty (.int x) = true ∧ P := by
  subst ht
  exact ⟨ex_nz h, by rcases h with rfl | rfl <;> rfl, hp⟩
theorem ex_plainI {ty : FieldType} {x : Int32} {P : Prop} (ht : ty = .int) (hp : P) : narrow ty (.int x) = .int x ∧ fits ty (.int x) = true ∧ P := by
  subst ht
  exact ⟨rfl, rfl, hp⟩
theorem ex_plainJ {ty : FieldType} {x : Int64} {P : Prop} (ht : ty = .long) (hp : P) : narrow ty (.long x) = .long x ∧ fits ty (.long x) = true ∧ P := by
  subst ht
  exact ⟨rfl, rfl, hp⟩
theorem ex_plainA {ty : FieldType} {t : FieldType} {x : Nat} {P : Prop} (ht : ty = t) (hp : P) (hk : fits t (.ref x) = true := by rfl) : narrow ty (.ref x) = .ref x ∧ fits ty (.ref x) = true ∧ P := by
  subst ht
  exact ⟨by cases ty <;> rfl, hk, hp⟩
theorem ex_lv_i {mj n1 n2 : Nat} {av rs : List Value} (h : 0 < mj ∧ mj < kNM ∧ kV mj + 1 ≤ kV mi ∧ kL mj + 19 + kW mj ≤ kW mi ∧ n1 ≤ kL mj ∧ n2 ≤ 8) (h1 : (lg_sl av).length = n1) (h2 : (rs.map Value.category).sum = n2) : ex_lv mi mj av rs = true := by
  subst h1; subst h2
  exact decide_eq_true h
theorem ex_pop_i {mj n : Nat} {st av rs : List Value} (h : kA mj = n) (hp : ex_pop n st = some (av, rs)) : ex_pop (kA mj) st = some (av, rs) := by rw [h]; exact hp
theorem ex_rc_i {mj n h : Nat} (hk : kH mj = n) (hr : ex_rc w h n = true) : ex_rc w h (kH mj) = true := by rw [hk]; exact hr
end EXQ
