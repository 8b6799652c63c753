/-! the other object reads codes -/
theorem op_let {S : List Nat} {p : Nat} (hp : p ≤ S.length) (h : opN S p ≤ 10) : ¬ S.getD (wF S p) 0 = 64 := by
  have : ∀ k i, i + k ≤ 11 → opL S p k i ≤ 10 → ∃ j, j < 11 ∧ wd S p = txN (22 + j) := by
    intro k
    induction k with
    | zero => intro i _ h; rw [opL] at h; omega
    | succ k ih =>
      intro i hi h
      rw [opL] at h
      split at h
      next c => exact ⟨i, by omega, c⟩
      next c => exact ih (i + 1) (by omega) h
  obtain ⟨j, hj, e⟩ := this 11 0 (by omega) h
  have g : ∀ j, j < 11 → ∃ c r, txN (22 + j) = c :: r ∧ ¬ c = 64 := by
    intro j hj
    have h1 : ∀ j, j < 11 → ¬ (txN (22 + j)).getD 0 0 = 64 := by decide +kernel
    have h2 : ∀ j, j < 11 → ¬ txN (22 + j) = [] := by decide +kernel
    cases ht : txN (22 + j) with
    | nil => exact absurd ht (h2 j hj)
    | cons c r =>
      have := h1 j hj
      rw [ht] at this
      exact ⟨c, r, rfl, this⟩
  obtain ⟨c, r, e2, e3⟩ := g j hj
  rw [e2] at e
  rw [(wd_0 hp e).1]
  exact e3
theorem codP_end {S : List Nat} {k p b0 : Nat} {Y ls : List Nat} {ns : NM} (hp : p ≤ S.length) (hw : ¬ wF S p < wT S p) : codP S (k + 1) p b0 Y ls ns = .inl (wF S p) := by
  have e8 : ¬ wd S p = txN 8 := fun z => hw (wd_ne hp (by rw [z]; decide +kernel))
  have e0 : rdL S p = none := by
    cases hq : rdL S p with
    | none => rfl
    | some N => exact absurd (rdL_lt hp hq) hw
  have e1 : insP S p (b0 + Y.length) Y.length = .inl (wF S p) := by
    unfold insP
    rw [if_neg (fun z => hw (opN_lt hp z.1))]
  rw [codP, if_neg e8, e0, e1]
section REF9
variable {X : Option (List Int32)} {w0 w : ex_W} {A : Nat → Int32} {S : List Nat} {p : Nat} {fr to : Int32} {v : Int64} {M : List Nat} {b q ca : Nat} {ls : List Nat} {ns : NM}
theorem y_codeLoop {J : Nat → Nat → Prop} {b0 st : Nat} {pre : List Nat} (E : isSr w0 S) (hJ : lnJ S J) (hpre : pre.length = st) (hst : 1 ≤ st) (hb0 : pre.length ≤ b0) : ∀ (k p : Nat) (v : Int64) (Y ls : List Nat) (ns : NM) (w : ex_W), S.length - p < k → p ≤ S.length → wF S p < wT S p → RS w0 A w S (wT S p) (nI (wF S p)) (nI (wT S p)) v (pre ++ Y) (b0 + Y.length) q ca ls (ns.map (sh st)) → b0 + Y.length ≤ 120 → 2 * ns.length ≤ Y.length → (∀ n, n ∈ ns → n.2.2 + 1 < Y.length) → wE S p → J p ls.length → (∀ t Y2, codP S k p b0 Y ls ns = .inr (t, Y2) → ∃ fr2 to2 v2 ls2 ns2 w2, ex_go X 153 158 [(0, .ref 32), (1, .int (nI st))] [] w = some (some (.int 1), w2) ∧ t ≤ S.length ∧ p < t ∧ RS w0 A w2 S t fr2 to2 v2 ((pre ++ Y2).set (st - 1) Y2.length) (b0 + Y2.length) q ca ls2 ns2 ∧ b0 + Y2.length ≤ 120) ∧ (∀ f, codP S k p b0 Y ls ns = .inl f → ∃ w2, ex_go X 153 158 [(0, .ref 32), (1, .int (nI st))] [] w = some (some (.int 0), w2) ∧ RF w0 A w2 f) := by
  have hl := lt_len E
  have n1 : ¬ (1 : Int32) = 0 := by decide
  intro k
  induction k with
  | zero => intro p v Y ls ns w h; omega
  | succ k ih =>
    intro p v Y ls ns w hk hp hw K hb hns hcl hE hj
    have wb := w_b hp
    have rc := rs_rc K
    have hM : (pre ++ Y).length ≤ b0 + Y.length := by rw [List.length_append]; omega
    have hy : (pre ++ Y).length = st + Y.length := by rw [List.length_append]; omega
    have al := rs_al K E (i := wF S p) (by omega)
    have hb0' := lt_b E (wF S p)
    have i8 : ex_call X 141 [.ref 32, .int 125, .int 0, .int 0, .int 0, .int 0, .int 0] w = _ := y_is (X := X) (xs := txN 8) (c0 := 125) (c1 := 0) (c2 := 0) (c3 := 0) (c4 := 0) (c5 := 0) K E hp hw (by decide) (by decide +kernel) (by decide +kernel) (by decide +kernel) (by decide +kernel) (by decide +kernel) (by decide +kernel) (by decide +kernel)
    -- on to the next word
    have nxt : ∀ (w2 : ex_W) (t : Nat) (fr2 to2 : Int32) (v2 : Int64) (Y2 ls2 : List Nat) (ns2 : NM), RS w0 A w2 S t fr2 to2 v2 (pre ++ Y2) (b0 + Y2.length) q ca ls2 (ns2.map (sh st)) → ex_go X 153 158 [(0, .ref 32), (1, .int (nI st))] [] w = ex_go X 153 203 [(0, .ref 32), (1, .int (nI st))] [.int 1] w2 → p < t → t ≤ S.length → b0 + Y2.length ≤ 120 → 2 * ns2.length ≤ Y2.length → (∀ n, n ∈ ns2 → n.2.2 + 1 < Y2.length) → wE S t → J t ls2.length → (∀ u Y3, codP S k t b0 Y2 ls2 ns2 = .inr (u, Y3) → ∃ fr2 to2 v2 ls2 ns2 w2, ex_go X 153 158 [(0, .ref 32), (1, .int (nI st))] [] w = some (some (.int 1), w2) ∧ u ≤ S.length ∧ p < u ∧ RS w0 A w2 S u fr2 to2 v2 ((pre ++ Y3).set (st - 1) Y3.length) (b0 + Y3.length) q ca ls2 ns2 ∧ b0 + Y3.length ≤ 120) ∧ (∀ f, codP S k t b0 Y2 ls2 ns2 = .inl f → ∃ w2, ex_go X 153 158 [(0, .ref 32), (1, .int (nI st))] [] w = some (some (.int 0), w2) ∧ RF w0 A w2 f) := by
      intro w2 t fr2 to2 v2 Y2 ls2 ns2 K2 hd hpt ht hb2 hns2 hcl2 hE2 hj2
      have rc2 := rs_rc K2
      have mu := y_must (X := X) K2 E ht
      by_cases cw : wF S t < wT S t
      · obtain ⟨w3, a3, K3⟩ := mu.1 cw
        have ihh := ih t v2 Y2 ls2 ns2 w3 (by omega) ht cw K3 hb2 hns2 hcl2 hE2 hj2
        have st0 : ex_go X 153 158 [(0, .ref 32), (1, .int (nI st))] [] w = ex_go X 153 158 [(0, .ref 32), (1, .int (nI st))] [] w3 := by
          rw [hd]
          simp (disch := first | assumption | decide) only [s153_203, s153_204, s153_205, s153_208, s153_209, s153_212, s153_215, s153_216, s153_217, if_neg n1, a3, List.getElem?_cons_zero, List.getElem?_cons_succ, Option.bind_some, Option.toList_some, Option.toList_none, List.cons_append, List.nil_append, not_true_eq_false, if_false, if_true, if_pos n1]
        rw [st0]
        refine ⟨fun u Y3 z => ?_, ihh.2⟩
        obtain ⟨fr3, to3, v3, ls3, ns3, w4, b1, b2, b3, b4⟩ := ihh.1 u Y3 z
        exact ⟨fr3, to3, v3, ls3, ns3, w4, b1, b2, by omega, b4⟩
      · obtain ⟨w3, a3, F3⟩ := mu.2 cw
        obtain ⟨k', hk'⟩ : ∃ k', k = k' + 1 := ⟨k - 1, by omega⟩
        rw [hk', codP_end ht cw]
        refine ⟨fun u Y3 z => (by cases z), fun f z => ?_⟩
        cases z
        refine ⟨w3, ?_, F3⟩
        rw [hd]
        simp (disch := first | assumption | decide) only [s153_203, s153_204, s153_205, s153_208, s153_209, s153_212, s153_215, s153_216, if_neg n1, a3, List.getElem?_cons_zero, List.getElem?_cons_succ, Option.bind_some, Option.toList_some, Option.toList_none, List.cons_append, List.nil_append, not_true_eq_false, if_false, if_true]
    have nxtF : ∀ (w2 : ex_W) (f : Nat), RF w0 A w2 f → ex_go X 153 158 [(0, .ref 32), (1, .int (nI st))] [] w = ex_go X 153 203 [(0, .ref 32), (1, .int (nI st))] [.int 0] w2 → ex_go X 153 158 [(0, .ref 32), (1, .int (nI st))] [] w = some (some (.int 0), w2) := by
      intro w2 f F hd
      rw [hd]
      simp (disch := first | assumption | decide) only [s153_203, s153_204, s153_205, s153_208, s153_209, s153_212, s153_215, s153_216, List.getElem?_cons_zero, List.getElem?_cons_succ, Option.bind_some, Option.toList_some, Option.toList_none, List.cons_append, List.nil_append, not_true_eq_false, if_false, if_true]
    rw [codP]
    by_cases c8 : wd S p = txN 8
    · rw [if_pos c8] at i8
      rw [if_pos c8]
      have fi := y_finish (X := X) (st := st) K (map_sh_mem hcl hpre) hst (by omega)
      have sa := stl_app (ls := ls) (pre := pre) ns Y
      rw [hpre] at sa
      have sa : stl ls (ns.map (sh st)) (pre ++ Y) = (stl ls ns Y).map (fun Z => pre ++ Z) := sa
      cases hs : stl ls ns Y with
      | some Y2 =>
        rw [hs] at sa
        obtain ⟨w2, a2, K2⟩ := fi.1 (pre ++ Y2) sa
        have l2 := stl_len ns Y Y2 hs
        refine ⟨fun t Y3 z => ?_, fun f z => (by cases z)⟩
        cases z
        rw [show (pre ++ Y).length - st = Y2.length by omega, ← l2] at K2
        refine ⟨_, _, _, _, _, w2, ?_, wb.2.2.1, by omega, K2, by omega⟩
        simp (disch := first | assumption | decide) only [s153_158, s153_159, s153_161, s153_162, s153_163, s153_164, s153_165, s153_166, s153_169, s153_220, s153_221, s153_222, s153_225, i8, List.getElem?_cons_zero, List.getElem?_cons_succ, Option.bind_some, Option.toList_some, Option.toList_none, List.cons_append, List.nil_append, not_true_eq_false, if_false, if_true, if_pos n1, a2]
      | none =>
        rw [hs] at sa
        obtain ⟨w2, a2, F2⟩ := fi.2 sa
        refine ⟨fun t Y3 z => (by cases z), fun f z => ?_⟩
        cases z
        refine ⟨w2, ?_, F2⟩
        simp (disch := first | assumption | decide) only [s153_158, s153_159, s153_161, s153_162, s153_163, s153_164, s153_165, s153_166, s153_169, s153_220, s153_221, s153_222, s153_225, i8, List.getElem?_cons_zero, List.getElem?_cons_succ, Option.bind_some, Option.toList_some, Option.toList_none, List.cons_append, List.nil_append, not_true_eq_false, if_false, if_true, if_pos n1, a2]
    · rw [if_neg c8] at i8
      rw [if_neg c8]
      by_cases c64 : S.getD (wF S p) 0 = 64
      · have e64 : ¬ ¬ nI (S.getD (wF S p) 0) = 64 := by rw [c64]; decide
        have eL : rdL S p = numW S (wF S p + 1) (wT S p) := if_pos c64
        have rl := y_readLine (X := X) (st := st) (y := Y.length) K E hp hy (by omega) (fun z => (hJ.2.2 p ls.length hp hE hj (by rw [eL]; exact z)).1)
        have hd : ∀ x w2, ex_call X 155 [.ref 32, .int (nI st)] w = some (some (.int x), w2) → ex_go X 153 158 [(0, .ref 32), (1, .int (nI st))] [] w = ex_go X 153 203 [(0, .ref 32), (1, .int (nI st))] [.int x] w2 := by
          intro x w2 h
          simp (disch := first | assumption | decide) only [s153_158, s153_159, s153_161, s153_162, s153_163, s153_164, s153_165, s153_166, s153_169, s153_172, s153_173, s153_176, s153_177, s153_180, s153_181, s153_183, s153_186, s153_187, s153_188, s153_191, i8, List.getElem?_cons_zero, List.getElem?_cons_succ, Option.bind_some, Option.toList_some, Option.toList_none, List.cons_append, List.nil_append, not_true_eq_false, if_false, if_true, rs_g K, al, if_neg e64, h]
        have ins : insP S p (b0 + Y.length) Y.length = .inl (wF S p) := by
          unfold insP
          rw [if_neg (fun z => op_let hp z.1 c64)]
        by_cases cN : numW S (wF S p + 1) (wT S p) = some ls.length
        · obtain ⟨w2, v2, a2, K2⟩ := rl.1 cN
          have hj2 := (hJ.2.2 p ls.length hp hE hj (by rw [eL]; exact cN)).2
          have nx := nxt w2 (wT S p) _ _ v2 Y (ls ++ [Y.length]) ns K2 (hd 1 w2 a2) (by omega) wb.2.2.1 hb hns hcl (wT_E hp) (by rw [List.length_append, List.length_singleton]; exact hj2)
          rw [eL, cN]
          show (∀ t Y2, (if ls.length = ls.length then codP S k (wT S p) b0 Y (ls ++ [Y.length]) ns else .inl (wF S p)) = .inr (t, Y2) → _) ∧ (∀ f, (if ls.length = ls.length then codP S k (wT S p) b0 Y (ls ++ [Y.length]) ns else .inl (wF S p)) = .inl f → _)
          rw [if_pos rfl]
          exact nx
        · obtain ⟨w2, a2, F2⟩ := rl.2 cN
          have hf := nxtF w2 _ F2 (hd 0 w2 a2)
          rw [eL]
          cases hN : numW S (wF S p + 1) (wT S p) with
          | some N =>
            have hne : ¬ N = ls.length := fun z => cN (by rw [hN, z])
            refine ⟨fun t Y3 z => ?_, fun f z => ?_⟩
            · have z : (if N = ls.length then codP S k (wT S p) b0 Y (ls ++ [Y.length]) ns else .inl (wF S p)) = Sum.inr (t, Y3) := z
              rw [if_neg hne] at z
              cases z
            · have z : (if N = ls.length then codP S k (wT S p) b0 Y (ls ++ [Y.length]) ns else .inl (wF S p)) = Sum.inl f := z
              rw [if_neg hne] at z
              cases z
              exact ⟨w2, hf, F2⟩
          | none =>
            rw [ins]
            refine ⟨fun t Y3 z => (by cases z), fun f z => ?_⟩
            cases z
            exact ⟨w2, hf, F2⟩
      · have e64 : ¬ nI (S.getD (wF S p) 0) = 64 := fun z => c64 ((nI_eq (b := 64) (by omega) (by decide)).mp z)
        have eL : rdL S p = none := if_neg c64
        rw [eL]
        have op := y_operation (X := X) K E hp hw
        have ri := y_readInstruction (X := X) (st := st) (y := Y.length) K E hp hM hb hy (by rw [List.length_map]; omega)
        have hd : ∀ x w2, ex_call X 157 [.ref 32, .int (if opN S p ≤ 10 then nI (opN S p) else -1), .int (nI st)] w = some (some (.int x), w2) → ex_go X 153 158 [(0, .ref 32), (1, .int (nI st))] [] w = ex_go X 153 203 [(0, .ref 32), (1, .int (nI st))] [.int x] w2 := by
          intro x w2 h
          simp (disch := first | assumption | decide) only [s153_158, s153_159, s153_161, s153_162, s153_163, s153_164, s153_165, s153_166, s153_169, s153_172, s153_173, s153_176, s153_177, s153_180, s153_181, s153_183, s153_186, s153_187, s153_188, s153_191, s153_194, s153_195, s153_196, s153_199, s153_200, i8, List.getElem?_cons_zero, List.getElem?_cons_succ, Option.bind_some, Option.toList_some, Option.toList_none, List.cons_append, List.nil_append, not_true_eq_false, if_false, if_true, rs_g K, al, if_pos e64, op, h]
        show (∀ t Y2, (match insP S p (b0 + Y.length) Y.length with | .inl f => .inl f | .inr (t, xs, n) => codP S k t b0 (Y ++ xs) ls (ns ++ n)) = Sum.inr (t, Y2) → _) ∧ (∀ f, (match insP S p (b0 + Y.length) Y.length with | .inl f => .inl f | .inr (t, xs, n) => codP S k t b0 (Y ++ xs) ls (ns ++ n)) = Sum.inl f → _)
        cases hins : insP S p (b0 + Y.length) Y.length with
        | inl f =>
          obtain ⟨w2, a2, F2⟩ := ri.2 f hins
          refine ⟨fun t Y3 z => (by cases z), fun g z => ?_⟩
          cases z
          exact ⟨w2, nxtF w2 _ F2 (hd 0 w2 a2), F2⟩
        | inr u =>
          obtain ⟨t, xs, n⟩ := u
          obtain ⟨w2, fr2, to2, v2, a2, K2⟩ := ri.1 t xs n hins
          have ok := ins_ok hp hins
          rw [List.append_assoc, ← List.map_append, Nat.add_assoc, ← List.length_append] at K2
          exact nxt w2 t fr2 to2 v2 (Y ++ xs) ls (ns ++ n) K2 (hd 1 w2 a2) (by omega) ok.2.2.2.2 (by rw [List.length_append]; omega) (by rw [List.length_append, List.length_append]; omega) (fun m hm => by
            rw [List.length_append]
            rcases List.mem_append.mp hm with x | x
            · have := hcl m x
              omega
            · have := ok.2.1 m x
              omega) (ins_E hp hins) (hJ.2.1 p t _ (by omega) hj)
/-- behind the code's two bytes -/
theorem y_codeRest {J : Nat → Nat → Prop} (K : RS w0 A w S p fr to v M b q ca ls ns) (E : isSr w0 S) (hC : chOK S) (hJ : lnJ S J) (hp : p ≤ S.length) (hM : M.length ≤ b) (hb : b ≤ 120) : (∀ t xs, codeP S p b = .inr (t, xs) → ∃ w2 fr2 to2 v2 ls2 ns2, ex_go X 153 30 [(0, .ref 32)] [] w = some (some (.int 1), w2) ∧ RS w0 A w2 S t fr2 to2 v2 (M ++ xs) (b + xs.length) q ca ls2 ns2 ∧ t ≤ S.length ∧ p < t ∧ b + xs.length ≤ 120) ∧ (∀ f, codeP S p b = .inl f → ∃ w2, ex_go X 153 30 [(0, .ref 32)] [] w = some (some (.int 0), w2) ∧ RF w0 A w2 f) := by
  have hl := lt_len E
  have n1 : ¬ (1 : Int32) = 0 := by decide
  have wb := w_b hp
  have rc := rs_rc K
  have mu := y_must (X := X) K E hp
  unfold codeP
  by_cases cw : wF S p < wT S p
  · obtain ⟨w1, a1, K1⟩ := mu.1 cw
    have rc1 := rs_rc K1
    have i10 : ex_call X 141 [.ref 32, .int 123, .int 0, .int 0, .int 0, .int 0, .int 0] w1 = _ := y_is (X := X) (xs := txN 10) (c0 := 123) (c1 := 0) (c2 := 0) (c3 := 0) (c4 := 0) (c5 := 0) K1 E hp cw (by decide) (by decide +kernel) (by decide +kernel) (by decide +kernel) (by decide +kernel) (by decide +kernel) (by decide +kernel) (by decide +kernel)
    by_cases c10 : wd S p = txN 10
    · rw [if_pos c10] at i10
      have rm := y_room (X := X) (n := 1) K1 hb (by decide)
      by_cases cR : b + 1 ≤ 120
      · rw [if_pos ⟨c10, cR⟩]
        obtain ⟨w2, a2, K2⟩ := rm.1 cR
        have a2 : ex_call X 146 [.ref 32, .int 1] w1 = some (some (.int 1), w2) := a2
        have rc2 := rs_rc K2
        obtain ⟨w3, a3, K3⟩ := y_add (X := X) (x := 0) (c := 0) K2 (by omega) (by decide)
        have rc3 := rs_rc K3
        -- lines and names are forgotten
        obtain ⟨⟨k1, k2⟩, k3, ⟨ms, m1, m2, m3⟩, a, bb, cc, d, h2, h3, h4, h5, h6, h7, h8, h9, h10, h11, h12, h13⟩ := K3
        have K3 : RS w0 A w3 S (wT S p) (nI (wF S p)) (nI (wT S p)) v (M ++ [0]) (b + 1) q ca ls ns := ⟨⟨k1, k2⟩, k3, ⟨ms, m1, m2, m3⟩, a, bb, cc, d, h2, h3, h4, h5, h6, h7, h8, h9, h10, h11, h12, h13⟩
        have p24 : ex_pf w3 32 8 24 (.int 0) = some (w3.set 32 (rd A (nI (M ++ [0]).length) (nI S.length) (nI (wT S p)) (nI (wF S p)) (nI (wT S p)) (-1) (nI (b + 1)) (nI q) (nI ca) 0 (nI ns.length) v)) := ex_pf_i k3 (Nat.le_of_ble_eq_true rfl)
        have s24 : (w3.set 32 (rd A (nI (M ++ [0]).length) (nI S.length) (nI (wT S p)) (nI (wF S p)) (nI (wT S p)) (-1) (nI (b + 1)) (nI q) (nI ca) 0 (nI ns.length) v))[32]? = some (rd A (nI (M ++ [0]).length) (nI S.length) (nI (wT S p)) (nI (wF S p)) (nI (wT S p)) (-1) (nI (b + 1)) (nI q) (nI ca) 0 (nI ns.length) v) := ex_set_s k3
        have p28 : ex_pf (w3.set 32 (rd A (nI (M ++ [0]).length) (nI S.length) (nI (wT S p)) (nI (wF S p)) (nI (wT S p)) (-1) (nI (b + 1)) (nI q) (nI ca) 0 (nI ns.length) v)) 32 8 28 (.int 0) = some (w3.set 32 (rd A (nI (M ++ [0]).length) (nI S.length) (nI (wT S p)) (nI (wF S p)) (nI (wT S p)) (-1) (nI (b + 1)) (nI q) (nI ca) 0 0 v)) := by
          have := ex_pf_i (k := 28) (v := .int 0) s24 (Nat.le_of_ble_eq_true rfl)
          rw [List.set_set] at this
          exact this
        have o : ∀ j, j ≠ 32 → (w3.set 32 (rd A (nI (M ++ [0]).length) (nI S.length) (nI (wT S p)) (nI (wF S p)) (nI (wT S p)) (-1) (nI (b + 1)) (nI q) (nI ca) 0 0 v))[j]? = w3[j]? := fun j h => List.getElem?_set_ne (Ne.symm h)
        have K4 : RS w0 A (w3.set 32 (rd A (nI (M ++ [0]).length) (nI S.length) (nI (wT S p)) (nI (wF S p)) (nI (wT S p)) (-1) (nI (b + 1)) (nI q) (nI ca) 0 0 v)) S (wT S p) (nI (wF S p)) (nI (wT S p)) v (M ++ [0]) (b + 1) q ca [] [] := ⟨⟨by rw [List.length_set]; exact k1, fun j hj => (o j (by omega)).trans (k2 j hj)⟩, ex_set_s k3, ⟨ms, (o 34 (by decide)).trans m1, m2, m3⟩, a, bb, cc, d, (o 42 (by decide)).trans h2, h3, holds_nil, (o 43 (by decide)).trans h5, h6, holds_nil, (o 44 (by decide)).trans h8, h9, holds_nil, (o 45 (by decide)).trans h11, h12, holds_nil⟩
        have rc4 := rs_rc K4
        have ml1 : (M ++ [0]).length = M.length + 1 := by rw [List.length_append, List.length_singleton]
        have hd : ex_go X 153 30 [(0, .ref 32)] [] w = ex_go X 153 88 [(0, .ref 32), (1, .int (nI (M.length + 1)))] [] (w3.set 32 (rd A (nI (M ++ [0]).length) (nI S.length) (nI (wT S p)) (nI (wF S p)) (nI (wT S p)) (-1) (nI (b + 1)) (nI q) (nI ca) 0 0 v)) := by
          rw [← ml1]
          simp (disch := first | assumption | decide) only [s153_30, s153_31, s153_34, s153_37, s153_38, s153_39, s153_40, s153_42, s153_43, s153_44, s153_45, s153_46, s153_47, s153_50, s153_53, s153_54, s153_57, s153_58, s153_59, s153_60, s153_63, s153_66, s153_67, s153_68, s153_69, s153_70, s153_73, s153_74, s153_77, s153_78, s153_79, s153_80, s153_83, s153_84, s153_85, a1, List.getElem?_cons_zero, List.getElem?_cons_succ, Option.bind_some, Option.toList_some, Option.toList_none, List.cons_append, List.nil_append, not_true_eq_false, if_false, if_true, if_pos n1, i10, a2, a3, rs_g K3, p24, p28]
        rw [hd]
        have wb1 := w_b wb.2.2.1
        have mu2 := y_must (X := X) K4 E wb.2.2.1
        by_cases cw2 : wF S (wT S p) < wT S (wT S p)
        · obtain ⟨w5, a5, K5⟩ := mu2.1 cw2
          have rc5 := rs_rc K5
          have i9 : ex_call X 141 [.ref 32, .int 114, .int 97, .int 119, .int 0, .int 0, .int 0] w5 = _ := y_is (X := X) (xs := txN 9) (c0 := 114) (c1 := 97) (c2 := 119) (c3 := 0) (c4 := 0) (c5 := 0) K5 E wb.2.2.1 cw2 (by decide) (by decide +kernel) (by decide +kernel) (by decide +kernel) (by decide +kernel) (by decide +kernel) (by decide +kernel) (by decide +kernel)
          unfold bodP
          by_cases c9 : wd S (wT S p) = txN 9
          · rw [if_pos c9] at i9
            rw [if_pos c9]
            have rb := y_readBytes (X := X) (cn := 0) (nm := 0) (Or.inl rfl) (Or.inl rfl) K5 E hC wb1.2.2.1 (by omega) cR
            rw [if_pos rfl] at rb
            cases hh : rHex S 0 (wT S (wT S p)) (b + 1) with
            | none =>
              rw [hh] at rb
              obtain ⟨w6, a6, F6⟩ := rb.2 _ rfl
              have a6 : ex_call X 151 [.ref 32, .int 0, .int 0] w5 = some (some (.int 0), w6) := a6
              refine ⟨fun t xs z => (by cases z), fun f z => ?_⟩
              cases z
              refine ⟨w6, ?_, F6⟩
              simp (disch := first | assumption | decide) only [s153_88, s153_89, s153_92, s153_95, s153_96, s153_97, s153_98, s153_100, s153_102, s153_104, s153_105, s153_106, s153_107, s153_110, s153_113, s153_114, s153_115, s153_116, s153_119, s153_122, s153_123, s153_126, s153_129, s153_130, a5, List.getElem?_cons_zero, List.getElem?_cons_succ, Option.bind_some, Option.toList_some, Option.toList_none, List.cons_append, List.nil_append, not_true_eq_false, if_false, if_true, if_pos n1, i9, if_neg n1, a6]
            | some xs =>
              rw [hh] at rb
              obtain ⟨w6, fr6, to6, v6, a6, K6, t6, b6⟩ := rb.1 _ _ rfl
              have a6 : ex_call X 151 [.ref 32, .int 0, .int 0] w5 = some (some (.int 1), w6) := a6
              have rc6 := rs_rc K6
              have wb2 := w_b wb1.2.2.1
              have mu3 := y_must (X := X) K6 E t6
              show (∀ t ys, (match (if wd S (wT S (wT S (wT S p))) = txN 8 then .inr (wT S (wT S (wT S (wT S p))), xs) else .inl (wF S (wT S (wT S (wT S p)))) : PR) with | .inl f => .inl f | .inr (t, Y) => .inr (t, Y.length :: Y)) = Sum.inr (t, ys) → _) ∧ (∀ f, (match (if wd S (wT S (wT S (wT S p))) = txN 8 then .inr (wT S (wT S (wT S (wT S p))), xs) else .inl (wF S (wT S (wT S (wT S p)))) : PR) with | .inl f => .inl f | .inr (t, Y) => .inr (t, Y.length :: Y)) = Sum.inl f → _)
              by_cases cw3 : wF S (wT S (wT S (wT S p))) < wT S (wT S (wT S (wT S p)))
              · obtain ⟨w7, a7, K7⟩ := mu3.1 cw3
                have rc7 := rs_rc K7
                have i8 : ex_call X 141 [.ref 32, .int 125, .int 0, .int 0, .int 0, .int 0, .int 0] w7 = _ := y_is (X := X) (xs := txN 8) (c0 := 125) (c1 := 0) (c2 := 0) (c3 := 0) (c4 := 0) (c5 := 0) K7 E t6 cw3 (by decide) (by decide +kernel) (by decide +kernel) (by decide +kernel) (by decide +kernel) (by decide +kernel) (by decide +kernel) (by decide +kernel)
                by_cases c8 : wd S (wT S (wT S (wT S p))) = txN 8
                · rw [if_pos c8] at i8
                  rw [if_pos c8]
                  have ln7 : (M ++ [0] ++ xs).length = M.length + 1 + xs.length := by rw [List.length_append, ml1]
                  have fi := y_finish (X := X) (st := M.length + 1) K7 (fun n hn => (by cases hn)) (by omega) (by omega)
                  obtain ⟨w8, a8, K8⟩ := fi.1 (M ++ [0] ++ xs) rfl
                  have es : (M ++ [0] ++ xs).set (M.length + 1 - 1) ((M ++ [0] ++ xs).length - (M.length + 1)) = M ++ xs.length :: xs := by
                    rw [ln7, Nat.add_sub_cancel, Nat.add_sub_cancel_left, List.append_assoc, List.set_append_right _ _ (Nat.le_refl _), Nat.sub_self]
                    rfl
                  rw [es] at K8
                  have wb3 := w_b t6
                  refine ⟨fun t ys z => ?_, fun f z => (by cases z)⟩
                  cases z
                  refine ⟨w8, nI (wF S (wT S (wT S (wT S p)))), nI (wT S (wT S (wT S (wT S p)))), v6, [], [], ?_, ?_, wb3.2.2.1, by omega, by rw [List.length_cons]; omega⟩
                  · simp (disch := first | assumption | decide) only [s153_88, s153_89, s153_92, s153_95, s153_96, s153_97, s153_98, s153_100, s153_102, s153_104, s153_105, s153_106, s153_107, s153_110, s153_113, s153_114, s153_115, s153_116, s153_119, s153_122, s153_123, s153_126, s153_129, s153_130, s153_131, s153_132, s153_134, s153_135, s153_136, s153_137, s153_138, s153_139, s153_142, s153_145, s153_146, s153_147, s153_150, s153_153, s153_154, s153_157, a5, List.getElem?_cons_zero, List.getElem?_cons_succ, Option.bind_some, Option.toList_some, Option.toList_none, List.cons_append, List.nil_append, not_true_eq_false, if_false, if_true, if_pos n1, i9, if_neg n1, a6, a7, i8, a8]
                  · rw [List.length_cons, show b + (xs.length + 1) = b + 1 + xs.length by omega]
                    exact K8
                · rw [if_neg c8] at i8
                  rw [if_neg c8]
                  obtain ⟨w8, a8, F8⟩ := y_wrong (X := X) K7
                  refine ⟨fun t ys z => (by cases z), fun f z => ?_⟩
                  cases z
                  refine ⟨w8, ?_, F8⟩
                  simp (disch := first | assumption | decide) only [s153_88, s153_89, s153_92, s153_95, s153_96, s153_97, s153_98, s153_100, s153_102, s153_104, s153_105, s153_106, s153_107, s153_110, s153_113, s153_114, s153_115, s153_116, s153_119, s153_122, s153_123, s153_126, s153_129, s153_130, s153_131, s153_132, s153_134, s153_135, s153_136, s153_137, s153_138, s153_139, s153_142, s153_145, s153_146, s153_147, s153_150, s153_153, s153_154, s153_157, a5, List.getElem?_cons_zero, List.getElem?_cons_succ, Option.bind_some, Option.toList_some, Option.toList_none, List.cons_append, List.nil_append, not_true_eq_false, if_false, if_true, if_pos n1, i9, if_neg n1, a6, a7, i8, a8]
              · obtain ⟨w7, a7, F7⟩ := mu3.2 cw3
                rw [if_neg (fun z => cw3 (wd_ne t6 (by rw [z]; decide +kernel)))]
                refine ⟨fun t ys z => (by cases z), fun f z => ?_⟩
                cases z
                refine ⟨w7, ?_, F7⟩
                simp (disch := first | assumption | decide) only [s153_88, s153_89, s153_92, s153_95, s153_96, s153_97, s153_98, s153_100, s153_102, s153_104, s153_105, s153_106, s153_107, s153_110, s153_113, s153_114, s153_115, s153_116, s153_119, s153_122, s153_123, s153_126, s153_129, s153_130, a5, List.getElem?_cons_zero, List.getElem?_cons_succ, Option.bind_some, Option.toList_some, Option.toList_none, List.cons_append, List.nil_append, not_true_eq_false, if_false, if_true, if_pos n1, i9, if_neg n1, a6, a7]
          · rw [if_neg c9] at i9
            rw [if_neg c9]
            have K5' : RS w0 A w5 S (wT S (wT S p)) (nI (wF S (wT S p))) (nI (wT S (wT S p))) v (M ++ [0] ++ []) (b + 1 + ([] : List Nat).length) q ca [] (([] : NM).map (sh (M.length + 1))) := by
              rw [List.append_nil]
              exact K5
            have lp := y_codeLoop (X := X) (st := M.length + 1) (pre := M ++ [0]) E hJ ml1 (by omega) (by omega) (S.length + 1) (wT S p) v [] [] [] w5 (by omega) wb.2.2.1 cw2 K5' cR (Nat.le_refl _) (fun n hn => (by cases hn)) (wT_E hp) (hJ.1 _)
            have st0 : ex_go X 153 88 [(0, .ref 32), (1, .int (nI (M.length + 1)))] [] (w3.set 32 (rd A (nI (M ++ [0]).length) (nI S.length) (nI (wT S p)) (nI (wF S p)) (nI (wT S p)) (-1) (nI (b + 1)) (nI q) (nI ca) 0 0 v)) = ex_go X 153 158 [(0, .ref 32), (1, .int (nI (M.length + 1)))] [] w5 := by
              simp (disch := first | assumption | decide) only [s153_88, s153_89, s153_92, s153_95, s153_96, s153_97, s153_98, s153_100, s153_102, s153_104, s153_105, s153_106, s153_107, s153_110, a5, List.getElem?_cons_zero, List.getElem?_cons_succ, Option.bind_some, Option.toList_some, Option.toList_none, List.cons_append, List.nil_append, not_true_eq_false, if_false, if_true, if_pos n1, i9]
            rw [st0]
            cases hcp : codP S (S.length + 1) (wT S p) (b + 1) [] [] [] with
            | inl f =>
              refine ⟨fun t xs z => (by cases z), fun g z => ?_⟩
              cases z
              exact lp.2 f hcp
            | inr u =>
              obtain ⟨t, Y⟩ := u
              refine ⟨fun t xs z => ?_, fun g z => (by cases z)⟩
              cases z
              obtain ⟨fr6, to6, v6, ls6, ns6, w6, b1, b2, b3, b4, b5⟩ := lp.1 t Y hcp
              have es : (M ++ [0] ++ Y).set (M.length + 1 - 1) Y.length = M ++ Y.length :: Y := by
                rw [Nat.add_sub_cancel, List.append_assoc, List.set_append_right _ _ (Nat.le_refl _), Nat.sub_self]
                rfl
              rw [es] at b4
              refine ⟨w6, fr6, to6, v6, ls6, ns6, b1, ?_, b2, by omega, by rw [List.length_cons]; omega⟩
              rw [List.length_cons, show b + (Y.length + 1) = b + 1 + Y.length by omega]
              exact b4
        · obtain ⟨w5, a5, F5⟩ := mu2.2 cw2
          have eb : bodP S (wT S p) (b + 1) = .inl (wF S (wT S p)) := by
            unfold bodP
            rw [if_neg (fun z => cw2 (wd_ne wb.2.2.1 (by rw [z]; decide +kernel))), codP_end wb.2.2.1 cw2]
          rw [eb]
          refine ⟨fun t xs z => (by cases z), fun f z => ?_⟩
          cases z
          refine ⟨w5, ?_, F5⟩
          simp (disch := first | assumption | decide) only [s153_88, s153_89, s153_92, s153_95, s153_96, a5, List.getElem?_cons_zero, List.getElem?_cons_succ, Option.bind_some, Option.toList_some, Option.toList_none, List.cons_append, List.nil_append, not_true_eq_false, if_false, if_true]
      · rw [if_neg (fun z => cR z.2)]
        obtain ⟨w2, a2, F2⟩ := rm.2 cR
        have a2 : ex_call X 146 [.ref 32, .int 1] w1 = some (some (.int 0), w2) := a2
        refine ⟨fun t xs z => (by cases z), fun f z => ?_⟩
        cases z
        refine ⟨w2, ?_, F2⟩
        simp (disch := first | assumption | decide) only [s153_30, s153_31, s153_34, s153_37, s153_38, s153_39, s153_40, s153_42, s153_43, s153_44, s153_45, s153_46, s153_47, s153_50, s153_53, s153_54, s153_57, s153_58, s153_59, s153_60, s153_63, s153_66, s153_67, a1, List.getElem?_cons_zero, List.getElem?_cons_succ, Option.bind_some, Option.toList_some, Option.toList_none, List.cons_append, List.nil_append, not_true_eq_false, if_false, if_true, if_pos n1, i10, a2]
    · rw [if_neg c10] at i10
      rw [if_neg (fun z => c10 z.1)]
      obtain ⟨w2, a2, F2⟩ := y_wrong (X := X) K1
      refine ⟨fun t xs z => (by cases z), fun f z => ?_⟩
      cases z
      refine ⟨w2, ?_, F2⟩
      simp (disch := first | assumption | decide) only [s153_30, s153_31, s153_34, s153_37, s153_38, s153_39, s153_40, s153_42, s153_43, s153_44, s153_45, s153_46, s153_47, s153_50, s153_53, s153_54, s153_57, a1, List.getElem?_cons_zero, List.getElem?_cons_succ, Option.bind_some, Option.toList_some, Option.toList_none, List.cons_append, List.nil_append, not_true_eq_false, if_false, if_true, if_pos n1, i10, a2]
  · obtain ⟨w1, a1, F1⟩ := mu.2 cw
    rw [if_neg (fun z => cw (wd_ne hp (by rw [z.1]; decide +kernel)))]
    refine ⟨fun t xs z => (by cases z), fun f z => ?_⟩
    cases z
    refine ⟨w1, ?_, F1⟩
    simp (disch := first | assumption | decide) only [s153_30, s153_31, s153_34, s153_37, s153_38, a1, List.getElem?_cons_zero, List.getElem?_cons_succ, Option.bind_some, Option.toList_some, Option.toList_none, List.cons_append, List.nil_append, not_true_eq_false, if_false, if_true]
end REF9
