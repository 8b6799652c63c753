/-! the lines @K and the distances that name them -/
def dHi (a o : Nat) : Nat := ((nI a - nI o) >>> ((8 : Int32) &&& 31)).toBitVec.toNat % 2 ^ 8
def dLo (a o : Nat) : Nat := (nI a - nI o).toBitVec.toNat % 2 ^ 8
theorem dHi_and (a o : Nat) : ((nI a - nI o) >>> ((8 : Int32) &&& 31)) &&& 255 = nI (dHi a o) := pk_and _ 8 rfl
theorem dLo_and (a o : Nat) : (nI a - nI o) &&& 255 = nI (dLo a o) := pk_and _ 8 rfl
/-- the distances are written; none if one names no line -/
def stl (ls : List Nat) : List (Nat × Nat × Nat) → List Nat → Option (List Nat)
  | [], M => some M
  | n :: r, M => if n.1 < ls.length then stl ls r ((M.set n.2.2 (dHi (ls.getD n.1 0) n.2.1)).set (n.2.2 + 1) (dLo (ls.getD n.1 0) n.2.1)) else none
theorem drop3 {l : List (Nat × Nat × Nat)} {i : Nat} (h : i < l.length) : l.drop i = l.getD i (0, 0, 0) :: l.drop (i + 1) := by
  rw [List.drop_eq_getElem_cons h, List.getD_eq_getElem?_getD, List.getElem?_eq_getElem h]
  rfl
theorem map3 {l : List (Nat × Nat × Nat)} {g : Nat × Nat × Nat → Nat} {i : Nat} (h : i < l.length) : (l.map g).getD i 0 = g (l.getD i (0, 0, 0)) := by
  rw [List.getD_eq_getElem?_getD, List.getElem?_map, List.getElem?_eq_getElem h, List.getD_eq_getElem?_getD, List.getElem?_eq_getElem h]
  rfl
theorem mem3 {l : List (Nat × Nat × Nat)} {i : Nat} (h : i < l.length) : l.getD i (0, 0, 0) ∈ l := by
  rw [List.getD_eq_getElem?_getD, List.getElem?_eq_getElem h]
  exact List.getElem_mem h
section LABELS
variable {X : Option (List Int32)} {w0 w : ex_W} {L : Nat} {S : List Nat} {p : Nat} {v : Int64} {M : List Nat} {pt cc br ic hl hr cs : Int32} {ls : List Nat} {ns : List (Nat × Nat × Nat)}
theorem mk_lb {w2 : ex_W} {ls2 : List Nat} {ns2 : List (Nat × Nat × Nat)} (K : isMk w0 w L S p v M pt cc br ic hl hr cs ls ns) (hlen : w2.length = w.length) (o : ∀ j, j < 10 ∨ 14 < j → w2[j]? = w[j]?) (B : isLb w2 ls2 ns2) : isMk w0 w2 L S p v M pt cc br ic hl hr cs ls2 ns2 := by
  obtain ⟨k1, k2, k3, ⟨xs, R, H, hx⟩, k5, k6⟩ := K
  exact ⟨hlen.trans k1, fun j hj => (o j (by omega)).trans (k2 j hj), (o 5 (by decide)).trans k3, ⟨xs, ⟨(o 6 (by decide)).trans R.1, (o 7 (by decide)).trans R.2.1, R.2.2⟩, H, hx⟩, wo_o k5 (o 8 (by decide)), B⟩
theorem lb_64 (K : isMk w0 w L S p v M pt cc br ic hl hr cs ls ns) : ls.length ≤ 64 ∧ ns.length ≤ 64 := by
  obtain ⟨a, b, c, d, h1, h2, h3, h4, h5, h6, h7, h8, h9, h10, h11, h12, h13⟩ := K.2.2.2.2.2
  have x := h4.1
  have y := h7.1
  rw [List.length_map] at y
  omega
theorem c_forget (K : isMk w0 w L S p v M pt cc br ic hl hr cs ls ns) : ∃ w2, ex_call X 39 [.ref 10] w = some (none, w2) ∧ isMk w0 w2 L S p v M pt cc br ic hl hr cs [] [] := by
  obtain ⟨a, b, c, d, h1, h2, h3, h4, h5, h6, h7, h8, h9, h10, h11, h12, h13⟩ := K.2.2.2.2.2
  have p1 : ex_pf w 10 3 1 (.int 0) = some (w.set 10 (.inl (3, [.ref 11, .int 0, .ref 12, .ref 13, .ref 14, .int (nI ns.length)]))) := ex_pf_i h1 (Nat.le_of_ble_eq_true rfl)
  have s1 : (w.set 10 (.inl (3, [.ref 11, .int 0, .ref 12, .ref 13, .ref 14, .int (nI ns.length)])))[10]? = some (.inl (3, [.ref 11, .int 0, .ref 12, .ref 13, .ref 14, .int (nI ns.length)])) := ex_set_s h1
  have p5 : ex_pf (w.set 10 (.inl (3, [.ref 11, .int 0, .ref 12, .ref 13, .ref 14, .int (nI ns.length)]))) 10 3 5 (.int 0) = some ((w.set 10 (.inl (3, [.ref 11, .int 0, .ref 12, .ref 13, .ref 14, .int (nI ns.length)]))).set 10 (.inl (3, [.ref 11, .int 0, .ref 12, .ref 13, .ref 14, .int 0]))) := ex_pf_i s1 (Nat.le_of_ble_eq_true rfl)
  rw [List.set_set] at p5
  have o : ∀ j, j ≠ 10 → (w.set 10 (.inl (3, [.ref 11, .int 0, .ref 12, .ref 13, .ref 14, .int 0])) : ex_W)[j]? = w[j]? := fun j h => List.getElem?_set_ne (Ne.symm h)
  refine ⟨_, ?_, mk_lb K List.length_set (fun j hj => o j (by omega)) ⟨a, b, c, d, ex_set_s h1, (o 11 (by decide)).trans h2, h3, holds_nil, (o 12 (by decide)).trans h5, h6, holds_nil, (o 13 (by decide)).trans h8, h9, holds_nil, (o 14 (by decide)).trans h11, h12, holds_nil⟩⟩
  show ex_go X 39 0 [(0, .ref 10)] [] w = _
  simp (disch := first | assumption | decide) only [s39_0, s39_1, s39_2, s39_5, s39_6, s39_7, s39_10, p1, List.getElem?_cons_zero, List.getElem?_cons_succ, Option.bind_some, Option.toList_some, Option.toList_none, List.cons_append, List.nil_append, not_true_eq_false, if_false, if_true, p5]
theorem c_addLine {q : Nat} {u : Int64} (K : isMk w0 w L S p v M pt cc br ic hl hr cs ls ns) (h64 : u = (nI ls.length).toInt64 → ls.length < 64) : (u = (nI ls.length).toInt64 → ∃ w2, ex_call X 37 [.ref 10, .long u, .int (nI q)] w = some (some (.int 1), w2) ∧ isMk w0 w2 L S p v M pt cc br ic hl hr cs (ls ++ [q]) ns) ∧ (¬ u = (nI ls.length).toInt64 → ex_call X 37 [.ref 10, .long u, .int (nI q)] w = some (some (.int 0), w)) := by
  obtain ⟨a, b, c, d, h1, h2, h3, h4, h5, h6, h7, h8, h9, h10, h11, h12, h13⟩ := K.2.2.2.2.2
  constructor
  · intro e
    have hl64 := h64 e
    have ec : ¬ ¬ lg_cmp u (nI ls.length).toInt64 = 0 := fun z => z ((lg_cmp_eq _ _).mpr e)
    have e2 : nI ls.length < 64 := nI_lt (b := 64) hl64 (by decide)
    have as := ex_as_i (kd := 0) (n := ls.length) (x := nI q) h2 (by omega) (by omega)
    have s1 : (w.set 11 (.inr (0, a.set ls.length (nI q))))[10]? = some (.inl (3, [.ref 11, .int (nI ls.length), .ref 12, .ref 13, .ref 14, .int (nI ns.length)])) := ex_set_o (by decide) h1
    have p1 : ex_pf (w.set 11 (.inr (0, a.set ls.length (nI q)))) 10 3 1 (.int (nI (ls.length + 1))) = some ((w.set 11 (.inr (0, a.set ls.length (nI q)))).set 10 (.inl (3, [.ref 11, .int (nI (ls.length + 1)), .ref 12, .ref 13, .ref 14, .int (nI ns.length)]))) := ex_pf_i s1 (Nat.le_of_ble_eq_true rfl)
    have o : ∀ j, j ≠ 10 → j ≠ 11 → ((w.set 11 (.inr (0, a.set ls.length (nI q)))).set 10 (.inl (3, [.ref 11, .int (nI (ls.length + 1)), .ref 12, .ref 13, .ref 14, .int (nI ns.length)])) : ex_W)[j]? = w[j]? := by
      intro j x y
      rw [List.getElem?_set_ne (Ne.symm x), List.getElem?_set_ne (Ne.symm y)]
    refine ⟨_, ?_, mk_lb K (by rw [List.length_set, List.length_set]) (fun j hj => o j (by omega) (by omega)) ⟨a.set ls.length (nI q), b, c, d, ?_, ex_set_o (by decide) (ex_set_s h2), by rw [List.length_set]; exact h3, holds_app h4 (by omega), (o 12 (by decide) (by decide)).trans h5, h6, h7, (o 13 (by decide) (by decide)).trans h8, h9, h10, (o 14 (by decide) (by decide)).trans h11, h12, h13⟩⟩
    · show ex_go X 37 0 [(0, .ref 10), (1, .long u), (3, .int (nI q))] [] w = _
      simp (disch := first | assumption | decide) only [s37_0, s37_1, s37_2, s37_5, s37_6, s37_7, s37_10, s37_11, s37_14, s37_16, s37_19, s37_20, s37_21, s37_22, s37_25, s37_26, s37_29, s37_30, s37_31, s37_32, s37_33, s37_36, s37_37, s37_38, s37_41, s37_42, ex_gf_i h1, List.getElem?_cons_zero, List.getElem?_cons_succ, Option.bind_some, Option.toList_some, Option.toList_none, List.cons_append, List.nil_append, not_true_eq_false, if_false, if_true, if_neg ec, if_pos e2, as, ex_gf_i s1, nI_1, p1]
    · rw [List.length_append, List.length_singleton]
      exact ex_set_s s1
  · intro e
    have ec : ¬ lg_cmp u (nI ls.length).toInt64 = 0 := fun z => e ((lg_cmp_eq _ _).mp z)
    show ex_go X 37 0 [(0, .ref 10), (1, .long u), (3, .int (nI q))] [] w = _
    simp (disch := first | assumption | decide) only [s37_0, s37_1, s37_2, s37_5, s37_6, s37_7, s37_10, s37_11, s37_14, s37_16, s37_19, s37_20, s37_21, s37_22, s37_25, s37_26, s37_29, s37_30, s37_31, s37_32, s37_33, s37_36, s37_37, s37_38, s37_41, s37_42, ex_gf_i h1, List.getElem?_cons_zero, List.getElem?_cons_succ, Option.bind_some, Option.toList_some, Option.toList_none, List.cons_append, List.nil_append, not_true_eq_false, if_false, if_true, if_pos ec]
theorem lbV_int (n : Nat × Nat × Nat) : (lbV n.1).toInt32 = nI (nmK n) ∧ nmK n < 2 ^ 31 := by
  unfold lbV nmK
  by_cases c : n.1 ≤ 2147483647
  · rw [if_pos c, if_pos c]
    refine ⟨?_, by omega⟩
    apply Int32.toInt_inj.mp
    have t := ngN_toInt (N := n.1) (by omega)
    rw [Jvm.Kit.i32_of_i64 (by rw [t]; omega) (by rw [t]; omega), t, nI_toInt (by omega)]
  · rw [if_neg c, if_neg c]
    exact ⟨rfl, by decide⟩
theorem lbV_eq {N k : Nat} (hk : k ≤ 64) : lbV N = (nI k).toInt64 ↔ N = k := by
  have e : ((nI k).toInt64).toInt = (k : Int) := by rw [Int32.toInt_toInt64, nI_toInt (by omega)]
  rw [← Int64.toInt_inj, e]
  unfold lbV
  by_cases c : N ≤ 2147483647
  · rw [if_pos c, ngN_toInt (by omega)]
    omega
  · rw [if_neg c]
    have : (2147483647 : Int64).toInt = 2147483647 := rfl
    rw [this]
    omega
theorem c_addName {N o q : Nat} (K : isMk w0 w L S p v M pt cc br ic hl hr cs ls ns) (h64 : ns.length < 64) : ∃ w2, ex_call X 38 [.ref 10, .long (lbV N), .int (nI o), .int (nI q)] w = some (some (.int 1), w2) ∧ isMk w0 w2 L S p v M pt cc br ic hl hr cs ls (ns ++ [(N, o, q)]) := by
  obtain ⟨a, b, c, d, h1, h2, h3, h4, h5, h6, h7, h8, h9, h10, h11, h12, h13⟩ := K.2.2.2.2.2
  have li := (lbV_int (N, o, q)).1
  have li : (lbV N).toInt32 = nI (nmK (N, o, q)) := li
  have e2 : nI ns.length < 64 := nI_lt (b := 64) h64 (by decide)
  have m1 : (ns.map nmK).length = ns.length := List.length_map _
  have m2 : (ns.map (fun n : Nat × Nat × Nat => n.2.1)).length = ns.length := List.length_map _
  have m3 : (ns.map (fun n : Nat × Nat × Nat => n.2.2)).length = ns.length := List.length_map _
  have as1 := ex_as_i (kd := 0) (n := ns.length) (x := nI (nmK (N, o, q))) h5 (by omega) (by omega)
  have t1 : (w.set 12 (.inr (0, b.set ns.length (nI (nmK (N, o, q))))))[10]? = some (.inl (3, [.ref 11, .int (nI ls.length), .ref 12, .ref 13, .ref 14, .int (nI ns.length)])) := ex_set_o (by decide) h1
  have as2 := ex_as_i (kd := 0) (n := ns.length) (x := nI o) (w := w.set 12 (.inr (0, b.set ns.length (nI (nmK (N, o, q)))))) (ex_set_o (by decide) h8) (by omega) (by omega)
  have t2 : ((w.set 12 (.inr (0, b.set ns.length (nI (nmK (N, o, q)))))).set 13 (.inr (0, c.set ns.length (nI o))))[10]? = some (.inl (3, [.ref 11, .int (nI ls.length), .ref 12, .ref 13, .ref 14, .int (nI ns.length)])) := ex_set_o (by decide) t1
  have as3 := ex_as_i (kd := 0) (n := ns.length) (x := nI q) (w := (w.set 12 (.inr (0, b.set ns.length (nI (nmK (N, o, q)))))).set 13 (.inr (0, c.set ns.length (nI o)))) (ex_set_o (by decide) (ex_set_o (by decide) h11)) (by omega) (by omega)
  have t3 : (((w.set 12 (.inr (0, b.set ns.length (nI (nmK (N, o, q)))))).set 13 (.inr (0, c.set ns.length (nI o)))).set 14 (.inr (0, d.set ns.length (nI q))))[10]? = some (.inl (3, [.ref 11, .int (nI ls.length), .ref 12, .ref 13, .ref 14, .int (nI ns.length)])) := ex_set_o (by decide) t2
  have p5 := ex_pf_i (k := 5) (v := .int (nI (ns.length + 1))) t3 (Nat.le_of_ble_eq_true rfl)
  refine ⟨_, ?_, mk_lb K (w2 := (((w.set 12 (.inr (0, b.set ns.length (nI (nmK (N, o, q)))))).set 13 (.inr (0, c.set ns.length (nI o)))).set 14 (.inr (0, d.set ns.length (nI q)))).set 10 (.inl (3, [.ref 11, .int (nI ls.length), .ref 12, .ref 13, .ref 14, .int (nI (ns.length + 1))]))) (by rw [List.length_set, List.length_set, List.length_set, List.length_set]) (fun j hj => by rw [List.getElem?_set_ne (by omega), List.getElem?_set_ne (by omega), List.getElem?_set_ne (by omega), List.getElem?_set_ne (by omega)]) ⟨a, b.set ns.length (nI (nmK (N, o, q))), c.set ns.length (nI o), d.set ns.length (nI q), ?_, ?_, h3, h4, ?_, by rw [List.length_set]; exact h6, ?_, ?_, by rw [List.length_set]; exact h9, ?_, ?_, by rw [List.length_set]; exact h12, ?_⟩⟩
  · show ex_go X 38 0 [(0, .ref 10), (1, .long (lbV N)), (3, .int (nI o)), (4, .int (nI q))] [] w = _
    simp (disch := first | assumption | decide) only [s38_0, s38_1, s38_4, s38_6, s38_9, s38_10, s38_11, s38_12, s38_15, s38_16, s38_19, s38_20, s38_21, s38_22, s38_23, s38_26, s38_27, s38_30, s38_31, s38_32, s38_33, s38_36, s38_37, s38_40, s38_42, s38_43, s38_44, s38_45, s38_48, s38_49, s38_50, s38_53, s38_54, ex_gf_i h1, List.getElem?_cons_zero, List.getElem?_cons_succ, Option.bind_some, Option.toList_some, Option.toList_none, List.cons_append, List.nil_append, not_true_eq_false, if_false, if_true, if_pos e2, li, as1, ex_gf_i t1, as2, ex_gf_i t2, as3, ex_gf_i t3, nI_1, p5]
    rfl
  · rw [List.length_append, List.length_singleton]
    exact ex_set_s t3
  · exact ex_set_o (by decide) (ex_set_o (by decide) (ex_set_o (by decide) (ex_set_o (by decide) h2)))
  · exact ex_set_o (by decide) (ex_set_o (by decide) (ex_set_o (by decide) (ex_set_s h5)))
  · have := holds_app (c := nmK (N, o, q)) h7 (by omega)
    rw [m1] at this
    rw [List.map_append]
    exact this
  · exact ex_set_o (by decide) (ex_set_o (by decide) (ex_set_s (ex_set_o (by decide) h8)))
  · have := holds_app (c := o) h10 (by omega)
    rw [m2] at this
    rw [List.map_append]
    exact this
  · exact ex_set_o (by decide) (ex_set_s (ex_set_o (by decide) (ex_set_o (by decide) h11)))
  · have := holds_app (c := q) h13 (by omega)
    rw [m3] at this
    rw [List.map_append]
    exact this
theorem c_place {c y : Nat} (K : isMk w0 w L S p v M pt cc br ic hl hr (nI c) ls ns) (hy : M.length = c + 1 + y) : ex_call X 46 [.ref 5] w = some (some (.int (nI y)), w) := by
  have sb : nI M.length - nI c - 1 = nI y := by
    rw [pk_sub (by omega), show M.length - c = y + 1 by omega, nI_pred]
  show ex_go X 46 0 [(0, .ref 5)] [] w = _
  simp (disch := first | assumption | decide) only [s46_0, s46_1, s46_4, s46_7, s46_8, s46_11, s46_12, s46_13, s46_14, mk_g K, List.getElem?_cons_zero, List.getElem?_cons_succ, Option.bind_some, Option.toList_some, Option.toList_none, List.cons_append, List.nil_append, not_true_eq_false, if_false, if_true, mk_n K, sb]
theorem lb_g (K : isMk w0 w L S p v M pt cc br ic hl hr cs ls ns) (k : Nat) : ex_gf w 10 3 k = [Value.ref 11, .int (nI ls.length), .ref 12, .ref 13, .ref 14, .int (nI ns.length)][k]? := by
  obtain ⟨a, b, c, d, h1, _⟩ := K.2.2.2.2.2
  exact ex_gf_i h1
theorem lb_ln {j : Nat} (K : isMk w0 w L S p v M pt cc br ic hl hr cs ls ns) (hj : j < ls.length) : ex_al w 11 0 (nI j) = some (nI (ls.getD j 0)) := by
  obtain ⟨a, b, c, d, h1, h2, h3, h4, _⟩ := K.2.2.2.2.2
  have := h4.1
  rw [ex_al_i h2 (by omega) (by omega), h4.2 j hj]
theorem lb_al {i : Nat} (K : isMk w0 w L S p v M pt cc br ic hl hr cs ls ns) (hi : i < ns.length) : ex_al w 12 0 (nI i) = some (nI (nmK (ns.getD i (0, 0, 0)))) ∧ ex_al w 13 0 (nI i) = some (nI (ns.getD i (0, 0, 0)).2.1) ∧ ex_al w 14 0 (nI i) = some (nI (ns.getD i (0, 0, 0)).2.2) := by
  obtain ⟨l1, l2⟩ := lb_64 K
  obtain ⟨a, b, c, d, h1, h2, h3, h4, h5, h6, h7, h8, h9, h10, h11, h12, h13⟩ := K.2.2.2.2.2
  have m1 : (ns.map nmK).length = ns.length := List.length_map _
  have m2 : (ns.map (fun n : Nat × Nat × Nat => n.2.1)).length = ns.length := List.length_map _
  have m3 : (ns.map (fun n : Nat × Nat × Nat => n.2.2)).length = ns.length := List.length_map _
  refine ⟨?_, ?_, ?_⟩
  · rw [ex_al_i h5 (by omega) (by omega), h7.2 i (by omega), map3 hi]
  · rw [ex_al_i h8 (by omega) (by omega), h10.2 i (by omega), map3 hi]
  · rw [ex_al_i h11 (by omega) (by omega), h13.2 i (by omega), map3 hi]
theorem c_settleLoop : ∀ (k i : Nat) (M : List Nat) (w : ex_W), i + k = ns.length → isMk w0 w L S p v M pt cc br ic hl hr cs ls ns → (∀ n, n ∈ ns → n.2.2 + 1 < M.length) → (∀ M2, stl ls (ns.drop i) M = some M2 → ∃ w2, ex_go X 36 2 [(0, .ref 10), (1, .ref 6), (2, .int (nI i))] [] w = some (some (.int 1), w2) ∧ isMk w0 w2 L S p v M2 pt cc br ic hl hr cs ls ns) ∧ (stl ls (ns.drop i) M = none → ∃ w2 M3, ex_go X 36 2 [(0, .ref 10), (1, .ref 6), (2, .int (nI i))] [] w = some (some (.int 0), w2) ∧ isMk w0 w2 L S p v M3 pt cc br ic hl hr cs ls ns) := by
  intro k
  induction k with
  | zero =>
    intro i M w hi K hc
    obtain ⟨l1, l2⟩ := lb_64 K
    have e : nI ns.length ≤ nI i := nI_le (by omega) (by omega)
    rw [List.drop_eq_nil_of_le (by omega), stl]
    refine ⟨fun M2 z => ?_, fun z => (by cases z)⟩
    cases z
    refine ⟨w, ?_, K⟩
    simp (disch := first | assumption | decide) only [s36_2, s36_3, s36_4, s36_7, s36_10, s36_11, s36_13, s36_101, s36_102, lb_g K, List.getElem?_cons_zero, List.getElem?_cons_succ, Option.bind_some, Option.toList_some, Option.toList_none, List.cons_append, List.nil_append, not_true_eq_false, if_false, if_true, if_pos e]
  | succ k ih =>
    intro i M w hi K hc
    obtain ⟨l1, l2⟩ := lb_64 K
    have h120 := mk_120 K
    have e : ¬ nI ns.length ≤ nI i := nI_ge (by omega) (by omega)
    have e64 : ¬ 64 ≤ nI i := nI_ge (b := 64) (by omega) (by decide)
    obtain ⟨al1, al2, al3⟩ := lb_al (i := i) K (by omega)
    rw [drop3 (by omega), stl]
    have hmem := mem3 (l := ns) (i := i) (by omega)
    have nk := (lbV_int (ns.getD i (0, 0, 0))).2
    have en : nmK (ns.getD i (0, 0, 0)) < ls.length ↔ (ns.getD i (0, 0, 0)).1 < ls.length := by
      unfold nmK
      by_cases c : (ns.getD i (0, 0, 0)).1 ≤ 2147483647
      · rw [if_pos c]
      · rw [if_neg c]; omega
    have n0 : ¬ nI (nmK (ns.getD i (0, 0, 0))) < 0 := nI_pos nk
    by_cases cn : (ns.getD i (0, 0, 0)).1 < ls.length
    · have cn2 := en.mpr cn
      have c1 : ¬ nI ls.length ≤ nI (nmK (ns.getD i (0, 0, 0))) := nI_ge cn2 (by omega)
      have c2 : nI (nmK (ns.getD i (0, 0, 0))) < 64 := nI_lt (b := 64) (by omega) (by decide)
      have nn : nmK (ns.getD i (0, 0, 0)) = (ns.getD i (0, 0, 0)).1 := by unfold nmK; rw [if_pos (by omega)]
      have ln := lb_ln K cn2
      have hcc := hc _ hmem
      have r6 := mk_r6 K
      obtain ⟨w2, a2, K2⟩ := mk_change (X := X) (i := (ns.getD i (0, 0, 0)).2.2) (c := dHi (ls.getD (ns.getD i (0, 0, 0)).1 0) (ns.getD i (0, 0, 0)).2.1) K (by omega)
      have r62 := mk_r6 K2
      obtain ⟨bl1, bl2, bl3⟩ := lb_al (i := i) K2 (by omega)
      obtain ⟨w3, a3, K3⟩ := mk_change (X := X) (i := (ns.getD i (0, 0, 0)).2.2 + 1) (c := dLo (ls.getD (ns.getD i (0, 0, 0)).1 0) (ns.getD i (0, 0, 0)).2.1) K2 (by rw [List.length_set]; exact hcc)
      have ihh := ih (i + 1) _ w3 (by omega) K3 (fun n hn => by rw [List.length_set, List.length_set]; exact hc n hn)
      rw [if_pos cn]
      rw [nn] at al1 c1 c2 n0 ln
      have st : ex_go X 36 2 [(0, .ref 10), (1, .ref 6), (2, .int (nI i))] [] w = ex_go X 36 2 [(0, .ref 10), (1, .ref 6), (2, .int (nI (i + 1)))] [] w3 := by
        rw [s36_2]
        simp (disch := first | assumption | decide) only [s36_3, s36_4, s36_7, s36_10, s36_11, s36_13, s36_16, s36_17, s36_20, s36_21, s36_22, s36_23, s36_24, s36_27, s36_28, s36_29, s36_32, s36_35, s36_36, s36_38, s36_41, s36_42, s36_43, s36_44, s36_47, s36_48, s36_49, s36_50, s36_53, s36_54, s36_55, s36_56, s36_58, s36_59, s36_60, s36_63, s36_64, s36_65, s36_67, s36_69, s36_70, s36_73, s36_74, s36_77, s36_78, s36_79, s36_82, s36_83, s36_84, s36_85, s36_86, s36_88, s36_91, s36_92, s36_95, s36_98, lb_g K, List.getElem?_cons_zero, List.getElem?_cons_succ, Option.bind_some, Option.toList_some, Option.toList_none, List.cons_append, List.nil_append, not_true_eq_false, if_false, if_true, if_neg e, if_neg e64, al1, if_neg n0, if_neg c1, if_pos c2, ln, al2, al3, dHi_and, a2, lb_g K2, bl3, nI_1, dLo_and, a3]
      rw [st]
      exact ihh
    · have c1 : nI ls.length ≤ nI (nmK (ns.getD i (0, 0, 0))) := nI_le (by omega) nk
      rw [if_neg cn]
      refine ⟨fun M2 z => (by cases z), fun _ => ⟨w, M, ?_, K⟩⟩
      simp (disch := first | assumption | decide) only [s36_2, s36_3, s36_4, s36_7, s36_10, s36_11, s36_13, s36_16, s36_17, s36_20, s36_21, s36_22, s36_23, s36_24, s36_27, s36_28, s36_29, s36_32, s36_35, s36_36, s36_38, s36_41, s36_42, lb_g K, List.getElem?_cons_zero, List.getElem?_cons_succ, Option.bind_some, Option.toList_some, Option.toList_none, List.cons_append, List.nil_append, not_true_eq_false, if_false, if_true, if_neg e, if_neg e64, al1, if_neg n0, if_pos c1]
theorem c_settle (K : isMk w0 w L S p v M pt cc br ic hl hr cs ls ns) (hc : ∀ n, n ∈ ns → n.2.2 + 1 < M.length) : (∀ M2, stl ls ns M = some M2 → ∃ w2, ex_call X 36 [.ref 10, .ref 6] w = some (some (.int 1), w2) ∧ isMk w0 w2 L S p v M2 pt cc br ic hl hr cs ls ns) ∧ (stl ls ns M = none → ∃ w2 M3, ex_call X 36 [.ref 10, .ref 6] w = some (some (.int 0), w2) ∧ isMk w0 w2 L S p v M3 pt cc br ic hl hr cs ls ns) := by
  have lp := c_settleLoop (X := X) ns.length 0 M w (by omega) K hc
  rw [List.drop_zero] at lp
  have st : ex_call X 36 [.ref 10, .ref 6] w = ex_go X 36 2 [(0, .ref 10), (1, .ref 6), (2, .int (nI 0))] [] w := by
    show ex_go X 36 0 [(0, .ref 10), (1, .ref 6)] [] w = _
    simp (disch := first | assumption | decide) only [s36_0, s36_1]
    rfl
  rw [st]
  exact lp
theorem stl_len : ∀ (ns : List (Nat × Nat × Nat)) (M M2 : List Nat), stl ls ns M = some M2 → M2.length = M.length := by
  intro ns
  induction ns with
  | nil => intro M M2 h; rw [stl] at h; cases h; rfl
  | cons n r ih =>
    intro M M2 h
    rw [stl] at h
    split at h
    next =>
      have := ih _ _ h
      rw [List.length_set, List.length_set] at this
      exact this
    next => cases h
/-- the bytes before are as they were -/
theorem stl_app {pre : List Nat} : ∀ (ns : List (Nat × Nat × Nat)) (Y : List Nat), stl ls (ns.map (fun n => (n.1, n.2.1, pre.length + n.2.2))) (pre ++ Y) = (stl ls ns Y).map (fun Z => pre ++ Z) := by
  intro ns
  induction ns with
  | nil => intro Y; rfl
  | cons n r ih =>
    intro Y
    rw [List.map_cons, stl, stl]
    by_cases c : n.1 < ls.length
    · rw [if_pos c, if_pos c, ← ih]
      have e1 : ∀ (Y : List Nat) (i x : Nat), (pre ++ Y).set (pre.length + i) x = pre ++ Y.set i x := by
        intro Y i x
        rw [List.set_append_right _ _ (Nat.le_add_right _ _), Nat.add_sub_cancel_left]
      show stl ls _ (((pre ++ Y).set (pre.length + n.2.2) _).set (pre.length + n.2.2 + 1) _) = _
      rw [e1, Nat.add_assoc, e1]
    · rw [if_neg c, if_neg c]
      rfl
end LABELS
