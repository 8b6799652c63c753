/-! the other object's distances and instructions -/
section REF7
variable {X : Option (List Int32)} {w0 w : ex_W} {A : Nat → Int32} {S : List Nat} {p : Nat} {fr to : Int32} {v : Int64} {M : List Nat} {b q ca : Nat} {ls : List Nat} {ns : NM}
theorem y_names {N o : Nat} {g : Int32} (K : RS w0 A w S p fr to v M b q ca ls ns) (h60 : ns.length < 60) (hg : (g = 1 ∧ 1000 < N) ∨ (g = 0 ∧ v = ng N ∧ N ≤ 2 ^ 63)) : ∃ w2, ex_go X 158 110 [(0, .ref 32), (1, .int (nI o)), (4, .int g)] [] w = ex_go X 158 267 [(0, .ref 32)] [] w2 ∧ RS w0 A w2 S p fr to 0 M b q ca ls (ns ++ [(N, o, M.length)]) := by
  obtain ⟨w2, a2, K2⟩ := y_addName (N := N) (o := o) (c := M.length) (x := nI (nm1 (N, o, M.length))) K h60 rfl
  refine ⟨w2, ?_, K2⟩
  obtain ⟨_, k3, _, a, bb, cc, d, h2, h3, h4, h5, h6, h7, h8, h9, h10, h11, h12, h13⟩ := K
  have as1 := ex_as_i (kd := 0) (n := ns.length) (x := nI M.length) h5 (by omega) (by omega)
  have t1 : (w.set 43 (.inr (0, bb.set ns.length (nI M.length))))[32]? = some (rd A (nI M.length) (nI S.length) (nI p) fr to (-1) (nI b) (nI q) (nI ca) (nI ls.length) (nI ns.length) v) := ex_set_o (by decide) k3
  have as2 := ex_as_i (kd := 0) (n := ns.length) (x := nI o) (w := w.set 43 (.inr (0, bb.set ns.length (nI M.length)))) (ex_set_o (by decide) h8) (by omega) (by omega)
  have t2 : ((w.set 43 (.inr (0, bb.set ns.length (nI M.length)))).set 44 (.inr (0, cc.set ns.length (nI o))))[32]? = some (rd A (nI M.length) (nI S.length) (nI p) fr to (-1) (nI b) (nI q) (nI ca) (nI ls.length) (nI ns.length) v) := ex_set_o (by decide) t1
  have as3 := ex_as_i (kd := 0) (n := ns.length) (x := nI (nm1 (N, o, M.length))) (w := (w.set 43 (.inr (0, bb.set ns.length (nI M.length)))).set 44 (.inr (0, cc.set ns.length (nI o)))) (ex_set_o (by decide) (ex_set_o (by decide) h11)) (by omega) (by omega)
  have t3 : (((w.set 43 (.inr (0, bb.set ns.length (nI M.length)))).set 44 (.inr (0, cc.set ns.length (nI o)))).set 45 (.inr (0, d.set ns.length (nI (nm1 (N, o, M.length))))))[32]? = some (rd A (nI M.length) (nI S.length) (nI p) fr to (-1) (nI b) (nI q) (nI ca) (nI ls.length) (nI ns.length) v) := ex_set_o (by decide) t2
  rw [as1, Option.bind_some, as2, Option.bind_some, as3, Option.bind_some] at a2
  have n1 : ¬ (1 : Int32) = 0 := by decide
  have k1000 : (1000 : Int32) = nI 1000 := rfl
  rcases hg with ⟨c1, c2⟩ | ⟨c1, c2, c3⟩
  · subst c1
    have e : (1000 : Int32) = nI (nm1 (N, o, M.length)) := by
      unfold nm1
      rw [if_neg (by omega)]
      rfl
    rw [← e] at as3 a2 t3
    simp (disch := first | assumption | decide) only [s158_110, s158_111, s158_114, s158_115, s158_118, s158_119, s158_122, s158_123, s158_124, s158_127, s158_128, s158_131, s158_132, s158_133, s158_134, s158_137, s158_138, s158_141, s158_143, s158_146, s158_147, s158_150, s158_153, s158_154, s158_157, s158_160, s158_163, s158_164, s158_167, s158_168, s158_169, s158_170, s158_171, s158_172, s158_175, s158_176, s158_177, s158_180, s158_181, s158_182, s158_185, ex_gf_i k3, List.getElem?_cons_zero, List.getElem?_cons_succ, Option.bind_some, Option.toList_some, Option.toList_none, List.cons_append, List.nil_append, not_true_eq_false, if_false, if_true, as1, ex_gf_i t1, as2, ex_gf_i t2, if_pos n1, as3, ex_gf_i t3, nI_1]
    rw [← Option.bind_assoc, a2, Option.bind_some]
  · subst c1
    subst c2
    have e1000 : (-1000 : Int64).toInt = -1000 := rfl
    by_cases c4 : N ≤ 1000
    · have gg : 0 ≤ lg_cmp (ng N) (-1000) := (lg_cmp_ge _ _).mpr (by
        rw [Int64.le_iff_toInt_le, e1000, ng_toInt c3]
        omega)
      have e := nm1_v c4 (o := o) (c := M.length)
      rw [← e] at as3 a2 t3
      simp (disch := first | assumption | decide) only [s158_110, s158_111, s158_114, s158_115, s158_118, s158_119, s158_122, s158_123, s158_124, s158_127, s158_128, s158_131, s158_132, s158_133, s158_134, s158_137, s158_138, s158_141, s158_143, s158_146, s158_147, s158_150, s158_153, s158_154, s158_157, s158_160, s158_163, s158_164, s158_167, s158_168, s158_169, s158_170, s158_171, s158_172, s158_175, s158_176, s158_177, s158_180, s158_181, s158_182, s158_185, ex_gf_i k3, List.getElem?_cons_zero, List.getElem?_cons_succ, Option.bind_some, Option.toList_some, Option.toList_none, List.cons_append, List.nil_append, not_true_eq_false, if_false, if_true, as1, ex_gf_i t1, as2, ex_gf_i t2, if_pos gg, as3, ex_gf_i t3, nI_1]
      rw [← Option.bind_assoc, a2, Option.bind_some]
    · have gg : ¬ 0 ≤ lg_cmp (ng N) (-1000) := fun z => by
        have := (lg_cmp_ge _ _).mp z
        rw [Int64.le_iff_toInt_le, e1000, ng_toInt c3] at this
        omega
      have e : (1000 : Int32) = nI (nm1 (N, o, M.length)) := by
        unfold nm1
        rw [if_neg (by omega)]
        rfl
      rw [← e] at as3 a2 t3
      simp (disch := first | assumption | decide) only [s158_110, s158_111, s158_114, s158_115, s158_118, s158_119, s158_122, s158_123, s158_124, s158_127, s158_128, s158_131, s158_132, s158_133, s158_134, s158_137, s158_138, s158_141, s158_143, s158_146, s158_147, s158_150, s158_153, s158_154, s158_157, s158_160, s158_163, s158_164, s158_167, s158_168, s158_169, s158_170, s158_171, s158_172, s158_175, s158_176, s158_177, s158_180, s158_181, s158_182, s158_185, ex_gf_i k3, List.getElem?_cons_zero, List.getElem?_cons_succ, Option.bind_some, Option.toList_some, Option.toList_none, List.cons_append, List.nil_append, not_true_eq_false, if_false, if_true, as1, ex_gf_i t1, as2, ex_gf_i t2, if_neg gg, as3, ex_gf_i t3, nI_1]
      rw [← Option.bind_assoc, a2, Option.bind_some]
theorem rf_fault {f : Nat} (F : RF w0 A w f) : ex_gf w 32 8 18 = some (.int (nI f)) ∧ ex_rc w 32 8 = true := by
  obtain ⟨_, ⟨_, _, _, _, _, _, _, _, _, _, _, h, _⟩, _⟩ := F
  exact ⟨ex_gf_i h, ex_rc_o h (by decide) (by decide)⟩
theorem y_readDistance {o y st : Nat} (K : RS w0 A w S p fr to v M b q ca ls ns) (E : isSr w0 S) (hp : p ≤ S.length) (hM : M.length ≤ b) (hb : b ≤ 120) (hy : M.length = st + y) (hns : 2 * ns.length ≤ M.length) : (∀ xs n, dstP S p b o y = some (xs, n) → ∃ w2 fr2 to2 v2, ex_call X 158 [.ref 32, .int (nI o)] w = some (some (.int 1), w2) ∧ RS w0 A w2 S (wT S p) fr2 to2 v2 (M ++ xs) (b + 2) q ca ls (ns ++ n.map (sh st)) ∧ b + 2 ≤ 120) ∧ (dstP S p b o y = none → ∃ w2, ex_call X 158 [.ref 32, .int (nI o)] w = some (some (.int 0), w2) ∧ RF w0 A w2 (wF S p)) := by
  have hl := lt_len E
  have rc := rs_rc K
  have n1 : ¬ (1 : Int32) = 0 := by decide
  have wb := w_b hp
  have mu := y_must (X := X) K E hp
  by_cases cw : wF S p < wT S p
  · obtain ⟨w1, a1, K1⟩ := mu.1 cw
    have rc1 := rs_rc K1
    have al := rs_al K1 E (i := wF S p) (by omega)
    have hb0 := lt_b E (wF S p)
    have hd0 : ex_call X 158 [.ref 32, .int (nI o)] w = ex_go X 158 19 [(0, .ref 32), (1, .int (nI o)), (2, .int (nI (S.getD (wF S p) 0)))] [] w1 := by
      show ex_go X 158 0 [(0, .ref 32), (1, .int (nI o))] [] w = _
      simp (disch := first | assumption | decide) only [s158_0, s158_1, s158_4, s158_7, s158_8, s158_9, s158_10, s158_13, s158_14, s158_17, s158_18, a1, List.getElem?_cons_zero, List.getElem?_cons_succ, Option.bind_some, Option.toList_some, Option.toList_none, List.cons_append, List.nil_append, not_true_eq_false, if_false, if_true, if_pos n1, rs_g K1, al]
    rw [hd0]
    have dg := y_digits (X := X) (a := wF S p + 1) (t := wT S p) K1 E wb.2.2.1 (by omega)
    have f0 : ¬ ¬ (0 : Int32) = 0 := by decide
    unfold dstP
    by_cases c64 : S.getD (wF S p) 0 = 64
    · -- a name
      have e64 : nI (S.getD (wF S p) 0) = 64 := by rw [c64]; rfl
      have e64n : ¬ ¬ nI (S.getD (wF S p) 0) = 64 := fun z => z e64
      have eL : rdL S p = numW S (wF S p + 1) (wT S p) := if_pos c64
      have eD : rdD S p = none := by
        unfold rdD
        rw [c64, if_neg (by decide), if_neg (by decide)]
      rw [eL, eD]
      by_cases cN : ∃ N, numW S (wF S p + 1) (wT S p) = some N ∧ N ≤ 2 ^ 63
      · obtain ⟨N, hN, cN2⟩ := cN
        obtain ⟨w2, a2, K2⟩ := dg.1 N hN cN2
        have rc2 := rs_rc K2
        rw [hN]
        have hd1 : ex_go X 158 19 [(0, .ref 32), (1, .int (nI o)), (2, .int (nI (S.getD (wF S p) 0)))] [] w1 = ex_go X 158 86 [(0, .ref 32), (1, .int (nI o)), (4, .int 0)] [] w2 := by
          simp (disch := first | assumption | decide) only [s158_19, s158_20, s158_22, s158_25, s158_26, s158_28, s158_31, s158_32, s158_34, s158_37, s158_38, s158_41, s158_42, s158_43, s158_44, s158_47, s158_48, s158_49, s158_52, s158_53, s158_54, s158_56, s158_59, s158_60, s158_63, s158_64, s158_67, s158_70, s158_71, s158_74, s158_75, s158_77, s158_78, s158_81, s158_83, if_pos e64, if_neg e64n, rs_g K1, List.getElem?_cons_zero, List.getElem?_cons_succ, Option.bind_some, Option.toList_some, Option.toList_none, List.cons_append, List.nil_append, not_true_eq_false, if_false, if_true, nI_1, a2, if_pos n1]
        rw [hd1]
        have rm := y_room (X := X) (n := 2) K2 hb (by decide)
        by_cases cR : b + 2 ≤ 120
        · obtain ⟨w3, a3, K3⟩ := rm.1 cR
          have a3 : ex_call X 146 [.ref 32, .int 2] w2 = some (some (.int 1), w3) := a3
          obtain ⟨w4, a4, K4⟩ := y_names (X := X) (N := N) (o := o) (g := 0) K3 (by omega) (Or.inr ⟨rfl, rfl, cN2⟩)
          obtain ⟨w5, a5, K5⟩ := y_addTwo (X := X) K4 (by omega)
          refine ⟨fun xs n z => ?_, fun z => ?_⟩
          · have z : (if b + 2 ≤ 120 then some ([0, 0], [(N, o, y)]) else none) = some (xs, n) := z
            rw [if_pos cR] at z
            cases z
            rw [lowBy0, hy] at K5
            refine ⟨w5, _, _, _, ?_, K5, cR⟩
            simp (disch := first | assumption | decide) only [s158_86, s158_87, s158_88, s158_91, a3, List.getElem?_cons_zero, List.getElem?_cons_succ, Option.bind_some, Option.toList_some, Option.toList_none, List.cons_append, List.nil_append, not_true_eq_false, if_false, if_true, if_pos n1]
            rw [a4, a5]
          · have z : (if b + 2 ≤ 120 then some ([0, 0], [(N, o, y)]) else none) = none := z
            rw [if_pos cR] at z
            cases z
        · obtain ⟨w3, a3, F3⟩ := rm.2 cR
          have a3 : ex_call X 146 [.ref 32, .int 2] w2 = some (some (.int 0), w3) := a3
          obtain ⟨g3, rc3⟩ := rf_fault F3
          have ge : 0 ≤ nI (wF S p) := nI_le (a := 0) (Nat.zero_le _) (by omega)
          refine ⟨fun xs n z => ?_, fun _ => ⟨w3, ?_, F3⟩⟩
          · have z : (if b + 2 ≤ 120 then some ([0, 0], [(N, o, y)]) else none) = some (xs, n) := z
            rw [if_neg cR] at z
            cases z
          · simp (disch := first | assumption | decide) only [s158_86, s158_87, s158_88, s158_91, s158_94, s158_95, s158_98, s158_101, s158_102, s158_105, s158_108, s158_109, a3, List.getElem?_cons_zero, List.getElem?_cons_succ, Option.bind_some, Option.toList_some, Option.toList_none, List.cons_append, List.nil_append, not_true_eq_false, if_false, if_true, g3, if_pos ge]
      · obtain ⟨w2, v2, a2, K2⟩ := dg.2 cN
        have rc2 := rs_rc K2
        have ir := y_isRow (X := X) K2 E hp cw cN
        cases hN : numW S (wF S p + 1) (wT S p) with
        | some N =>
          rw [hN, if_neg (fun z => by cases z)] at ir
          have cN2 : ¬ N ≤ 2 ^ 63 := fun z => cN ⟨N, hN, z⟩
          have hd1 : ex_go X 158 19 [(0, .ref 32), (1, .int (nI o)), (2, .int (nI (S.getD (wF S p) 0)))] [] w1 = ex_go X 158 86 [(0, .ref 32), (1, .int (nI o)), (4, .int 1)] [] w2 := by
            simp (disch := first | assumption | decide) only [s158_19, s158_20, s158_22, s158_25, s158_26, s158_28, s158_31, s158_32, s158_34, s158_37, s158_38, s158_41, s158_42, s158_43, s158_44, s158_47, s158_48, s158_49, s158_52, s158_53, s158_54, s158_56, s158_59, s158_60, s158_63, s158_64, s158_67, s158_70, s158_71, s158_74, s158_75, s158_77, s158_78, s158_81, s158_83, if_pos e64, if_neg e64n, rs_g K1, List.getElem?_cons_zero, List.getElem?_cons_succ, Option.bind_some, Option.toList_some, Option.toList_none, List.cons_append, List.nil_append, not_true_eq_false, if_false, if_true, nI_1, a2, ir, if_neg n1]
          rw [hd1]
          have rm := y_room (X := X) (n := 2) K2 hb (by decide)
          by_cases cR : b + 2 ≤ 120
          · obtain ⟨w3, a3, K3⟩ := rm.1 cR
            have a3 : ex_call X 146 [.ref 32, .int 2] w2 = some (some (.int 1), w3) := a3
            obtain ⟨w4, a4, K4⟩ := y_names (X := X) (N := N) (o := o) (g := 1) K3 (by omega) (Or.inl ⟨rfl, by omega⟩)
            obtain ⟨w5, a5, K5⟩ := y_addTwo (X := X) K4 (by omega)
            refine ⟨fun xs n z => ?_, fun z => ?_⟩
            · have z : (if b + 2 ≤ 120 then some ([0, 0], [(N, o, y)]) else none) = some (xs, n) := z
              rw [if_pos cR] at z
              cases z
              rw [lowBy0, hy] at K5
              refine ⟨w5, _, _, _, ?_, K5, cR⟩
              simp (disch := first | assumption | decide) only [s158_86, s158_87, s158_88, s158_91, a3, List.getElem?_cons_zero, List.getElem?_cons_succ, Option.bind_some, Option.toList_some, Option.toList_none, List.cons_append, List.nil_append, not_true_eq_false, if_false, if_true, if_pos n1]
              rw [a4, a5]
            · have z : (if b + 2 ≤ 120 then some ([0, 0], [(N, o, y)]) else none) = none := z
              rw [if_pos cR] at z
              cases z
          · obtain ⟨w3, a3, F3⟩ := rm.2 cR
            have a3 : ex_call X 146 [.ref 32, .int 2] w2 = some (some (.int 0), w3) := a3
            obtain ⟨g3, rc3⟩ := rf_fault F3
            have ge : 0 ≤ nI (wF S p) := nI_le (a := 0) (Nat.zero_le _) (by omega)
            refine ⟨fun xs n z => ?_, fun _ => ⟨w3, ?_, F3⟩⟩
            · have z : (if b + 2 ≤ 120 then some ([0, 0], [(N, o, y)]) else none) = some (xs, n) := z
              rw [if_neg cR] at z
              cases z
            · simp (disch := first | assumption | decide) only [s158_86, s158_87, s158_88, s158_91, s158_94, s158_95, s158_98, s158_101, s158_102, s158_105, s158_108, s158_109, a3, List.getElem?_cons_zero, List.getElem?_cons_succ, Option.bind_some, Option.toList_some, Option.toList_none, List.cons_append, List.nil_append, not_true_eq_false, if_false, if_true, g3, if_pos ge]
        | none =>
          rw [hN, if_pos rfl] at ir
          obtain ⟨w3, a3, F3⟩ := y_wrong (X := X) K2
          have m2 : ¬ 0 ≤ (-1 : Int32) := by decide
          refine ⟨fun xs n z => (by cases z), fun _ => ⟨w3, ?_, F3⟩⟩
          simp (disch := first | assumption | decide) only [s158_19, s158_20, s158_22, s158_25, s158_26, s158_28, s158_31, s158_32, s158_34, s158_37, s158_38, s158_41, s158_42, s158_43, s158_44, s158_47, s158_48, s158_49, s158_52, s158_53, s158_54, s158_56, s158_59, s158_60, s158_63, s158_64, s158_67, s158_70, s158_71, s158_74, s158_75, s158_77, s158_78, s158_81, s158_83, s158_86, s158_87, s158_88, s158_91, s158_94, s158_95, s158_98, s158_101, s158_102, s158_105, s158_108, s158_109, if_pos e64, if_neg e64n, rs_g K1, List.getElem?_cons_zero, List.getElem?_cons_succ, Option.bind_some, Option.toList_some, Option.toList_none, List.cons_append, List.nil_append, not_true_eq_false, if_false, if_true, nI_1, a2, ir, rs_g K2, if_neg m2, a3]
    · have e64 : ¬ nI (S.getD (wF S p) 0) = 64 := fun z => c64 ((nI_eq (b := 64) (by omega) (by decide)).mp z)
      have eL : rdL S p = none := if_neg c64
      rw [eL]
      -- behind the digits: a distance
      by_cases c45 : S.getD (wF S p) 0 = 45
      · have e45 : nI (S.getD (wF S p) 0) = 45 := by rw [c45]; rfl
        have e45n : ¬ ¬ nI (S.getD (wF S p) 0) = 45 := fun z => z e45
        have e43 : ¬ nI (S.getD (wF S p) 0) = 43 := by rw [c45]; decide
        unfold rdD
        rw [if_pos c45]
        have bad : ∀ (w2 : ex_W) (v2 : Int64), RS w0 A w2 S (wT S p) (nI (wF S p)) (nI (wT S p)) v2 M b q ca ls ns → ∃ w3, ex_go X 158 230 [(0, .ref 32)] [] w2 = some (some (.int 0), w3) ∧ RF w0 A w3 (wF S p) := by
          intro w2 v2 K2
          have rc2 := rs_rc K2
          obtain ⟨w3, a3, F3⟩ := y_wrong (X := X) K2
          exact ⟨w3, by simp (disch := first | assumption | decide) only [s158_230, s158_231, s158_234, a3, List.getElem?_cons_zero, List.getElem?_cons_succ, Option.bind_some, Option.toList_some, Option.toList_none, List.cons_append, List.nil_append, not_true_eq_false, if_false, if_true], F3⟩
        by_cases cN : ∃ N, numW S (wF S p + 1) (wT S p) = some N ∧ N ≤ 2 ^ 63
        · obtain ⟨N, hN, cN2⟩ := cN
          obtain ⟨w2, a2, K2⟩ := dg.1 N hN cN2
          have rc2 := rs_rc K2
          rw [hN]
          have hd1 : ex_go X 158 19 [(0, .ref 32), (1, .int (nI o)), (2, .int (nI (S.getD (wF S p) 0)))] [] w1 = ex_go X 158 188 [(0, .ref 32), (2, .int (nI (S.getD (wF S p) 0))), (3, .int 1)] [] w2 := by
            simp (disch := first | assumption | decide) only [s158_19, s158_20, s158_22, s158_25, s158_26, s158_28, s158_31, s158_32, s158_34, s158_37, s158_38, s158_41, s158_42, s158_43, s158_44, s158_47, s158_48, s158_49, s158_52, s158_53, s158_54, s158_56, if_neg e64, if_neg e43, if_pos e45, if_pos e64, rs_g K1, List.getElem?_cons_zero, List.getElem?_cons_succ, Option.bind_some, Option.toList_some, Option.toList_none, List.cons_append, List.nil_append, not_true_eq_false, if_false, if_true, nI_1, a2]
          rw [hd1]
          have e1 : (-32768 : Int64).toInt = -32768 := rfl
          by_cases c0 : N = 0 ∨ 32768 < N
          · refine ⟨fun xs n z => ?_, fun _ => ?_⟩
            · have z : (match (if N = 0 ∨ 32768 < N then none else some (ng N) : Option Int64) with | some v => if b + 2 ≤ 120 then some (lowBy v 2, ([] : NM)) else none | none => none) = some (xs, n) := z
              rw [if_pos c0] at z
              cases z
            · obtain ⟨w3, a3, F3⟩ := bad w2 _ K2
              refine ⟨w3, ?_, F3⟩
              rw [← a3]
              by_cases z0 : N = 0
              · have g0 : lg_cmp (ng N) 0 = 0 := (lg_cmp_eq _ 0).mpr (by rw [z0]; rfl)
                simp (disch := first | assumption | decide) only [s158_188, s158_189, s158_192, s158_193, s158_195, s158_198, s158_199, s158_202, s158_203, s158_204, s158_207, s158_208, s158_211, s158_212, s158_214, s158_217, s158_220, s158_223, s158_226, s158_227, if_neg n1, if_neg e45n, rs_g K2, List.getElem?_cons_zero, List.getElem?_cons_succ, Option.bind_some, Option.toList_some, Option.toList_none, List.cons_append, List.nil_append, not_true_eq_false, if_false, if_true, g0]
              · have g0 : ¬ lg_cmp (ng N) 0 = 0 := fun y => by
                  have := (lg_cmp_eq _ 0).mp y
                  rw [l0_i, ng_toInt cN2] at this
                  omega
                have g1 : ¬ 0 ≤ lg_cmp (ng N) (-32768) := fun z => by
                  have := (lg_cmp_ge _ _).mp z
                  rw [Int64.le_iff_toInt_le, e1, ng_toInt cN2] at this
                  omega
                simp (disch := first | assumption | decide) only [s158_188, s158_189, s158_192, s158_193, s158_195, s158_198, s158_199, s158_202, s158_203, s158_204, s158_207, s158_208, s158_211, s158_212, s158_214, s158_217, s158_220, s158_223, s158_226, s158_227, if_neg n1, if_neg e45n, rs_g K2, List.getElem?_cons_zero, List.getElem?_cons_succ, Option.bind_some, Option.toList_some, Option.toList_none, List.cons_append, List.nil_append, not_true_eq_false, if_false, if_true, if_neg g0, if_neg g1]
          · have g0 : ¬ lg_cmp (ng N) 0 = 0 := fun y => by
              have := (lg_cmp_eq _ 0).mp y
              rw [l0_i, ng_toInt cN2] at this
              omega
            have g1 : 0 ≤ lg_cmp (ng N) (-32768) := (lg_cmp_ge _ _).mpr (by
              rw [Int64.le_iff_toInt_le, e1, ng_toInt cN2]
              omega)
            have K3 := rs_set (p2 := wT S p) (fr2 := nI (wF S p)) (to2 := nI (wT S p)) (v2 := ng N) (b2 := b) (q2 := q) (ca2 := ca) K2
            have rc3 := rs_rc K3
            have rm := y_room (X := X) (n := 2) K3 hb (by decide)
            have hd2 : ∀ x w4, ex_call X 146 [.ref 32, .int 2] (w2.set 32 (rd A (nI M.length) (nI S.length) (nI (wT S p)) (nI (wF S p)) (nI (wT S p)) (-1) (nI b) (nI q) (nI ca) (nI ls.length) (nI ns.length) (ng N))) = some (some (.int x), w4) → ex_go X 158 188 [(0, .ref 32), (2, .int (nI (S.getD (wF S p) 0))), (3, .int 1)] [] w2 = ex_go X 158 262 [(0, .ref 32)] [.int x] w4 := by
              intro x w4 h
              simp (disch := first | assumption | decide) only [s158_188, s158_189, s158_192, s158_193, s158_195, s158_198, s158_199, s158_202, s158_203, s158_204, s158_207, s158_208, s158_211, s158_212, s158_214, s158_217, s158_220, s158_223, s158_226, s158_227, s158_230, s158_231, s158_234, s158_235, s158_236, s158_237, s158_239, s158_242, s158_243, s158_246, s158_249, s158_250, s158_253, s158_254, s158_257, s158_258, s158_259, if_neg n1, if_neg e45n, rs_g K2, List.getElem?_cons_zero, List.getElem?_cons_succ, Option.bind_some, Option.toList_some, Option.toList_none, List.cons_append, List.nil_append, not_true_eq_false, if_false, if_true, if_neg g0, if_pos g1, rs_p19 K2, h]
            by_cases cR : b + 2 ≤ 120
            · obtain ⟨w4, a4, K4⟩ := rm.1 cR
              obtain ⟨w5, a5, K5⟩ := y_addTwo (X := X) K4 (by omega)
              refine ⟨fun xs n z => ?_, fun z => ?_⟩
              · have z : (match (if N = 0 ∨ 32768 < N then none else some (ng N) : Option Int64) with | some v => if b + 2 ≤ 120 then some (lowBy v 2, ([] : NM)) else none | none => none) = some (xs, n) := z
                rw [if_neg c0] at z
                have z : (if b + 2 ≤ 120 then some (lowBy (ng N) 2, ([] : NM)) else none) = some (xs, n) := z
                rw [if_pos cR] at z
                cases z
                refine ⟨w5, _, _, _, ?_, by rw [List.map_nil, List.append_nil]; exact K5, cR⟩
                rw [hd2 1 w4 a4]
                simp (disch := first | assumption | decide) only [s158_262, if_pos n1]
                exact a5
              · have z : (match (if N = 0 ∨ 32768 < N then none else some (ng N) : Option Int64) with | some v => if b + 2 ≤ 120 then some (lowBy v 2, ([] : NM)) else none | none => none) = none := z
                rw [if_neg c0] at z
                have z : (if b + 2 ≤ 120 then some (lowBy (ng N) 2, ([] : NM)) else none) = none := z
                rw [if_pos cR] at z
                cases z
            · obtain ⟨w4, a4, F4⟩ := rm.2 cR
              refine ⟨fun xs n z => ?_, fun _ => ⟨w4, ?_, F4⟩⟩
              · have z : (match (if N = 0 ∨ 32768 < N then none else some (ng N) : Option Int64) with | some v => if b + 2 ≤ 120 then some (lowBy v 2, ([] : NM)) else none | none => none) = some (xs, n) := z
                rw [if_neg c0] at z
                have z : (if b + 2 ≤ 120 then some (lowBy (ng N) 2, ([] : NM)) else none) = some (xs, n) := z
                rw [if_neg cR] at z
                cases z
              · rw [hd2 0 w4 a4]
                simp (disch := first | assumption | decide) only [s158_262, s158_265, s158_266, List.getElem?_cons_zero, List.getElem?_cons_succ, Option.bind_some, Option.toList_some, Option.toList_none, List.cons_append, List.nil_append, not_true_eq_false, if_false, if_true]
        · obtain ⟨w2, v2, a2, K2⟩ := dg.2 cN
          have hd1 : ex_go X 158 19 [(0, .ref 32), (1, .int (nI o)), (2, .int (nI (S.getD (wF S p) 0)))] [] w1 = ex_go X 158 230 [(0, .ref 32)] [] w2 := by
            simp (disch := first | assumption | decide) only [s158_19, s158_20, s158_22, s158_25, s158_26, s158_28, s158_31, s158_32, s158_34, s158_37, s158_38, s158_41, s158_42, s158_43, s158_44, s158_47, s158_48, s158_49, s158_52, s158_53, s158_54, s158_56, s158_188, s158_189, if_neg e64, if_neg e43, if_pos e45, if_pos e64, rs_g K1, List.getElem?_cons_zero, List.getElem?_cons_succ, Option.bind_some, Option.toList_some, Option.toList_none, List.cons_append, List.nil_append, not_true_eq_false, if_false, if_true, nI_1, a2]
          rw [hd1]
          have none2 : (match numW S (wF S p + 1) (wT S p) with | some N => if N = 0 ∨ 32768 < N then none else some (ng N) | none => none) = (none : Option Int64) := by
            cases hN : numW S (wF S p + 1) (wT S p) with
            | none => rfl
            | some N => exact if_pos (by
                by_cases z : N ≤ 2 ^ 63
                · exact absurd ⟨N, hN, z⟩ cN
                · omega)
          refine ⟨fun xs n z => ?_, fun _ => bad w2 v2 K2⟩
          have z : (match (match numW S (wF S p + 1) (wT S p) with | some N => if N = 0 ∨ 32768 < N then none else some (ng N) | none => none : Option Int64) with | some v => if b + 2 ≤ 120 then some (lowBy v 2, ([] : NM)) else none | none => none) = some (xs, n) := z
          rw [none2] at z
          cases z
      · have e45 : ¬ nI (S.getD (wF S p) 0) = 45 := fun z => c45 ((nI_eq (b := 45) (by omega) (by decide)).mp z)
        unfold rdD
        rw [if_neg c45]
        by_cases c43 : S.getD (wF S p) 0 = 43
        · have e43 : nI (S.getD (wF S p) 0) = 43 := by rw [c43]; rfl
          rw [if_pos c43]
          have bad : ∀ (w2 : ex_W) (v2 : Int64), RS w0 A w2 S (wT S p) (nI (wF S p)) (nI (wT S p)) v2 M b q ca ls ns → ∃ w3, ex_go X 158 230 [(0, .ref 32)] [] w2 = some (some (.int 0), w3) ∧ RF w0 A w3 (wF S p) := by
            intro w2 v2 K2
            have rc2 := rs_rc K2
            obtain ⟨w3, a3, F3⟩ := y_wrong (X := X) K2
            exact ⟨w3, by simp (disch := first | assumption | decide) only [s158_230, s158_231, s158_234, a3, List.getElem?_cons_zero, List.getElem?_cons_succ, Option.bind_some, Option.toList_some, Option.toList_none, List.cons_append, List.nil_append, not_true_eq_false, if_false, if_true], F3⟩
          by_cases cN : ∃ N, numW S (wF S p + 1) (wT S p) = some N ∧ N ≤ 2 ^ 63
          · obtain ⟨N, hN, cN2⟩ := cN
            obtain ⟨w2, a2, K2⟩ := dg.1 N hN cN2
            have rc2 := rs_rc K2
            rw [hN]
            have hd1 : ex_go X 158 19 [(0, .ref 32), (1, .int (nI o)), (2, .int (nI (S.getD (wF S p) 0)))] [] w1 = ex_go X 158 188 [(0, .ref 32), (2, .int (nI (S.getD (wF S p) 0))), (3, .int 1)] [] w2 := by
              simp (disch := first | assumption | decide) only [s158_19, s158_20, s158_22, s158_25, s158_26, s158_28, s158_31, s158_32, s158_34, s158_37, s158_38, s158_41, s158_42, s158_43, s158_44, s158_47, s158_48, s158_49, s158_52, s158_53, s158_54, s158_56, if_neg e64, if_pos e43, if_pos e64, rs_g K1, List.getElem?_cons_zero, List.getElem?_cons_succ, Option.bind_some, Option.toList_some, Option.toList_none, List.cons_append, List.nil_append, not_true_eq_false, if_false, if_true, nI_1, a2]
            rw [hd1]
            have e1 : (-32767 : Int64).toInt = -32767 := rfl
            by_cases c0 : N ≤ 32767
            · have g1 : 0 ≤ lg_cmp (ng N) (-32767) := (lg_cmp_ge _ _).mpr (by
                rw [Int64.le_iff_toInt_le, e1, ng_toInt cN2]
                omega)
              have K3 := rs_set (p2 := wT S p) (fr2 := nI (wF S p)) (to2 := nI (wT S p)) (v2 := -(ng N)) (b2 := b) (q2 := q) (ca2 := ca) K2
              have rc3 := rs_rc K3
              have rm := y_room (X := X) (n := 2) K3 hb (by decide)
              have hd2 : ∀ x w4, ex_call X 146 [.ref 32, .int 2] (w2.set 32 (rd A (nI M.length) (nI S.length) (nI (wT S p)) (nI (wF S p)) (nI (wT S p)) (-1) (nI b) (nI q) (nI ca) (nI ls.length) (nI ns.length) (-(ng N)))) = some (some (.int x), w4) → ex_go X 158 188 [(0, .ref 32), (2, .int (nI (S.getD (wF S p) 0))), (3, .int 1)] [] w2 = ex_go X 158 262 [(0, .ref 32)] [.int x] w4 := by
                intro x w4 h
                simp (disch := first | assumption | decide) only [s158_188, s158_189, s158_192, s158_193, s158_195, s158_198, s158_199, s158_202, s158_203, s158_204, s158_207, s158_208, s158_211, s158_212, s158_214, s158_217, s158_220, s158_223, s158_226, s158_227, s158_230, s158_231, s158_234, s158_235, s158_236, s158_237, s158_239, s158_242, s158_243, s158_246, s158_249, s158_250, s158_253, s158_254, s158_257, s158_258, s158_259, if_neg n1, if_pos e45, rs_g K2, List.getElem?_cons_zero, List.getElem?_cons_succ, Option.bind_some, Option.toList_some, Option.toList_none, List.cons_append, List.nil_append, not_true_eq_false, if_false, if_true, if_pos g1, rs_p19 K2, h]
              by_cases cR : b + 2 ≤ 120
              · obtain ⟨w4, a4, K4⟩ := rm.1 cR
                obtain ⟨w5, a5, K5⟩ := y_addTwo (X := X) K4 (by omega)
                refine ⟨fun xs n z => ?_, fun z => ?_⟩
                · have z : (match (if N ≤ 32767 then some (-(ng N)) else none : Option Int64) with | some v => if b + 2 ≤ 120 then some (lowBy v 2, ([] : NM)) else none | none => none) = some (xs, n) := z
                  rw [if_pos c0] at z
                  have z : (if b + 2 ≤ 120 then some (lowBy (-(ng N)) 2, ([] : NM)) else none) = some (xs, n) := z
                  rw [if_pos cR] at z
                  cases z
                  refine ⟨w5, _, _, _, ?_, by rw [List.map_nil, List.append_nil]; exact K5, cR⟩
                  rw [hd2 1 w4 a4]
                  simp (disch := first | assumption | decide) only [s158_262, if_pos n1]
                  exact a5
                · have z : (match (if N ≤ 32767 then some (-(ng N)) else none : Option Int64) with | some v => if b + 2 ≤ 120 then some (lowBy v 2, ([] : NM)) else none | none => none) = none := z
                  rw [if_pos c0] at z
                  have z : (if b + 2 ≤ 120 then some (lowBy (-(ng N)) 2, ([] : NM)) else none) = none := z
                  rw [if_pos cR] at z
                  cases z
              · obtain ⟨w4, a4, F4⟩ := rm.2 cR
                refine ⟨fun xs n z => ?_, fun _ => ⟨w4, ?_, F4⟩⟩
                · have z : (match (if N ≤ 32767 then some (-(ng N)) else none : Option Int64) with | some v => if b + 2 ≤ 120 then some (lowBy v 2, ([] : NM)) else none | none => none) = some (xs, n) := z
                  rw [if_pos c0] at z
                  have z : (if b + 2 ≤ 120 then some (lowBy (-(ng N)) 2, ([] : NM)) else none) = some (xs, n) := z
                  rw [if_neg cR] at z
                  cases z
                · rw [hd2 0 w4 a4]
                  simp (disch := first | assumption | decide) only [s158_262, s158_265, s158_266, List.getElem?_cons_zero, List.getElem?_cons_succ, Option.bind_some, Option.toList_some, Option.toList_none, List.cons_append, List.nil_append, not_true_eq_false, if_false, if_true]
            · have g1 : ¬ 0 ≤ lg_cmp (ng N) (-32767) := fun z => by
                have := (lg_cmp_ge _ _).mp z
                rw [Int64.le_iff_toInt_le, e1, ng_toInt cN2] at this
                omega
              refine ⟨fun xs n z => ?_, fun _ => ?_⟩
              · have z : (match (if N ≤ 32767 then some (-(ng N)) else none : Option Int64) with | some v => if b + 2 ≤ 120 then some (lowBy v 2, ([] : NM)) else none | none => none) = some (xs, n) := z
                rw [if_neg c0] at z
                cases z
              · obtain ⟨w3, a3, F3⟩ := bad w2 _ K2
                refine ⟨w3, ?_, F3⟩
                rw [← a3]
                simp (disch := first | assumption | decide) only [s158_188, s158_189, s158_192, s158_193, s158_195, s158_198, s158_199, s158_202, s158_203, s158_204, s158_207, s158_208, s158_211, s158_212, s158_214, s158_217, s158_220, s158_223, s158_226, s158_227, if_neg n1, if_pos e45, rs_g K2, List.getElem?_cons_zero, List.getElem?_cons_succ, Option.bind_some, Option.toList_some, Option.toList_none, List.cons_append, List.nil_append, not_true_eq_false, if_false, if_true, if_neg g1]
          · obtain ⟨w2, v2, a2, K2⟩ := dg.2 cN
            have hd1 : ex_go X 158 19 [(0, .ref 32), (1, .int (nI o)), (2, .int (nI (S.getD (wF S p) 0)))] [] w1 = ex_go X 158 230 [(0, .ref 32)] [] w2 := by
              simp (disch := first | assumption | decide) only [s158_19, s158_20, s158_22, s158_25, s158_26, s158_28, s158_31, s158_32, s158_34, s158_37, s158_38, s158_41, s158_42, s158_43, s158_44, s158_47, s158_48, s158_49, s158_52, s158_53, s158_54, s158_56, s158_188, s158_189, if_neg e64, if_pos e43, if_pos e64, rs_g K1, List.getElem?_cons_zero, List.getElem?_cons_succ, Option.bind_some, Option.toList_some, Option.toList_none, List.cons_append, List.nil_append, not_true_eq_false, if_false, if_true, nI_1, a2]
            rw [hd1]
            have none2 : (match numW S (wF S p + 1) (wT S p) with | some N => if N ≤ 32767 then some (-(ng N)) else none | none => none) = (none : Option Int64) := by
              cases hN : numW S (wF S p + 1) (wT S p) with
              | none => rfl
              | some N => exact if_neg (fun z => cN ⟨N, hN, by omega⟩)
            refine ⟨fun xs n z => ?_, fun _ => bad w2 v2 K2⟩
            have z : (match (match numW S (wF S p + 1) (wT S p) with | some N => if N ≤ 32767 then some (-(ng N)) else none | none => none : Option Int64) with | some v => if b + 2 ≤ 120 then some (lowBy v 2, ([] : NM)) else none | none => none) = some (xs, n) := z
            rw [none2] at z
            cases z
        · have e43 : ¬ nI (S.getD (wF S p) 0) = 43 := fun z => c43 ((nI_eq (b := 43) (by omega) (by decide)).mp z)
          rw [if_neg c43]
          obtain ⟨w3, a3, F3⟩ := y_wrong (X := X) K1
          refine ⟨fun xs n z => (by cases z), fun _ => ⟨w3, ?_, F3⟩⟩
          simp (disch := first | assumption | decide) only [s158_19, s158_20, s158_22, s158_25, s158_26, s158_28, s158_31, s158_32, s158_34, s158_37, s158_38, s158_41, if_neg e64, if_neg e43, if_neg e45, a3, List.getElem?_cons_zero, List.getElem?_cons_succ, Option.bind_some, Option.toList_some, Option.toList_none, List.cons_append, List.nil_append, not_true_eq_false, if_false, if_true]
  · obtain ⟨w1, a1, F1⟩ := mu.2 cw
    have e0 := getD_end hp cw
    have ed : dstP S p b o y = none := by
      have e1 : rdL S p = none := by unfold rdL; rw [e0, if_neg (by decide)]
      have e2 : rdD S p = none := by unfold rdD; rw [e0, if_neg (by decide), if_neg (by decide)]
      unfold dstP
      rw [e1, e2]
    rw [ed]
    refine ⟨fun xs n z => (by cases z), fun _ => ⟨w1, ?_, F1⟩⟩
    show ex_go X 158 0 [(0, .ref 32), (1, .int (nI o))] [] w = _
    simp (disch := first | assumption | decide) only [s158_0, s158_1, s158_4, s158_7, s158_8, a1, List.getElem?_cons_zero, List.getElem?_cons_succ, Option.bind_some, Option.toList_some, Option.toList_none, List.cons_append, List.nil_append, not_true_eq_false, if_false, if_true]
end REF7
