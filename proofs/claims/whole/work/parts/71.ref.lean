/-! the other object's words and bytes -/
theorem wd_cnd {S : List Nat} {p : Nat} {xs : List Nat} {a b c d e f : Nat} (hp : p ≤ S.length) (h6 : 1 ≤ xs.length ∧ xs.length ≤ 6) (h0 : xs.getD 0 0 = a) (h1 : 1 < xs.length → xs.getD 1 0 = b) (h2 : 2 < xs.length → xs.getD 2 0 = c) (h3 : 3 < xs.length → xs.getD 3 0 = d) (h4 : 4 < xs.length → xs.getD 4 0 = e) (h5 : 5 < xs.length → xs.getD 5 0 = f) : wd S p = xs ↔ (wT S p - wF S p = xs.length ∧ S.getD (wF S p) 0 = a ∧ (1 < wT S p - wF S p → S.getD (wF S p + 1) 0 = b) ∧ (2 < wT S p - wF S p → S.getD (wF S p + 2) 0 = c) ∧ (3 < wT S p - wF S p → S.getD (wF S p + 3) 0 = d) ∧ (4 < wT S p - wF S p → S.getD (wF S p + 4) 0 = e) ∧ (5 < wT S p - wF S p → S.getD (wF S p + 5) 0 = f)) := by
  have wl := wd_len hp
  constructor
  · intro h
    have ln : wT S p - wF S p = xs.length := by rw [← wl, h]
    have g : ∀ i, i < xs.length → S.getD (wF S p + i) 0 = xs.getD i 0 := fun i hi => by rw [← wd_get (by omega), h]
    exact ⟨ln, by rw [← h0]; exact g 0 (by omega), fun z => by rw [g 1 (by omega)]; exact h1 (by omega), fun z => by rw [g 2 (by omega)]; exact h2 (by omega), fun z => by rw [g 3 (by omega)]; exact h3 (by omega), fun z => by rw [g 4 (by omega)]; exact h4 (by omega), fun z => by rw [g 5 (by omega)]; exact h5 (by omega)⟩
  · rintro ⟨ln, g0, g1, g2, g3, g4, g5⟩
    apply List.ext_getElem?
    intro i
    by_cases hi : i < xs.length
    · have e1 : (wd S p).getD i 0 = xs.getD i 0 := by
        rw [wd_get (by omega)]
        have cs : i = 0 ∨ i = 1 ∨ i = 2 ∨ i = 3 ∨ i = 4 ∨ i = 5 := by omega
        rcases cs with c | c | c | c | c | c <;> subst c
        · rw [h0]; exact g0
        · rw [h1 hi]; exact g1 (by omega)
        · rw [h2 hi]; exact g2 (by omega)
        · rw [h3 hi]; exact g3 (by omega)
        · rw [h4 hi]; exact g4 (by omega)
        · rw [h5 hi]; exact g5 (by omega)
      rw [List.getD_eq_getElem?_getD, List.getD_eq_getElem?_getD, List.getElem?_eq_getElem (by omega), List.getElem?_eq_getElem hi] at e1
      rw [List.getElem?_eq_getElem (by omega), List.getElem?_eq_getElem hi]
      exact congrArg some e1
    · rw [List.getElem?_eq_none (by omega), List.getElem?_eq_none (by omega)]
def dueN (b c d e f : Nat) : Nat := if b = 0 then 1 else if c = 0 then 2 else if d = 0 then 3 else if e = 0 then 4 else if f = 0 then 5 else 6
section REF3
variable {X : Option (List Int32)} {w0 w : ex_W} {A : Nat → Int32} {S : List Nat} {p : Nat} {fr to : Int32} {v : Int64} {M : List Nat} {b q ca : Nat} {ls : List Nat} {ns : NM}
theorem y_is {xs : List Nat} {c0 c1 c2 c3 c4 c5 pl : Nat} (K : RS w0 A w S pl (nI (wF S p)) (nI (wT S p)) v M b q ca ls ns) (E : isSr w0 S) (hp : p ≤ S.length) (hw : wF S p < wT S p) (hc : c0 < 128 ∧ c1 < 128 ∧ c2 < 128 ∧ c3 < 128 ∧ c4 < 128 ∧ c5 < 128) (hd : xs.length = dueN c1 c2 c3 c4 c5) (h0 : xs.getD 0 0 = c0) (h1 : 1 < xs.length → xs.getD 1 0 = c1) (h2 : 2 < xs.length → xs.getD 2 0 = c2) (h3 : 3 < xs.length → xs.getD 3 0 = c3) (h4 : 4 < xs.length → xs.getD 4 0 = c4) (h5 : 5 < xs.length → xs.getD 5 0 = c5) : ex_call X 141 [.ref 32, .int (nI c0), .int (nI c1), .int (nI c2), .int (nI c3), .int (nI c4), .int (nI c5)] w = some (some (.int (if wd S p = xs then 1 else 0)), w) := by
  have hl := lt_len E
  have wb := w_b hp
  have hx : 1 ≤ xs.length ∧ xs.length ≤ 6 := by
    rw [hd]
    unfold dueN
    repeat' split
    all_goals omega
  have cn := wd_cnd (S := S) (p := p) (xs := xs) hp hx h0 h1 h2 h3 h4 h5
  have sb : nI (wT S p) - nI (wF S p) = nI (wT S p - wF S p) := pk_sub wb.2.1
  have z : ∀ c, c < 128 → (c = 0 → ¬ ¬ nI c = 0) ∧ (¬ c = 0 → ¬ nI c = 0) := fun c h => ⟨fun e y => y (by rw [e]; rfl), fun e => nI_ne0 (by omega) (by omega)⟩
  have due : ex_call X 141 [.ref 32, .int (nI c0), .int (nI c1), .int (nI c2), .int (nI c3), .int (nI c4), .int (nI c5)] w = ex_go X 141 58 [(0, .ref 32), (1, .int (nI c0)), (2, .int (nI c1)), (3, .int (nI c2)), (4, .int (nI c3)), (5, .int (nI c4)), (6, .int (nI c5)), (7, .int (nI (wT S p - wF S p))), (8, .int (nI xs.length))] [] w := by
    show ex_go X 141 0 [(0, .ref 32), (1, .int (nI c0)), (2, .int (nI c1)), (3, .int (nI c2)), (4, .int (nI c3)), (5, .int (nI c4)), (6, .int (nI c5))] [] w = _
    rw [hd]
    unfold dueN
    by_cases d1 : c1 = 0
    · rw [if_pos d1]
      simp (disch := first | assumption | decide) only [s141_0, s141_1, s141_4, s141_5, s141_8, s141_9, s141_11, s141_12, s141_15, s141_16, s141_19, s141_20, s141_23, s141_24, s141_27, s141_29, s141_32, s141_33, s141_36, s141_38, s141_41, s141_42, s141_45, s141_47, s141_50, s141_51, s141_54, s141_56, rs_g K, List.getElem?_cons_zero, List.getElem?_cons_succ, Option.bind_some, Option.toList_some, Option.toList_none, List.cons_append, List.nil_append, not_true_eq_false, if_false, if_true, sb, if_neg ((z c1 hc.2.1).1 d1)]
      rfl
    · rw [if_neg d1]
      have e1 := (z c1 hc.2.1).2 d1
      by_cases d2 : c2 = 0
      · rw [if_pos d2]
        simp (disch := first | assumption | decide) only [s141_0, s141_1, s141_4, s141_5, s141_8, s141_9, s141_11, s141_12, s141_15, s141_16, s141_19, s141_20, s141_23, s141_24, s141_27, s141_29, s141_32, s141_33, s141_36, s141_38, s141_41, s141_42, s141_45, s141_47, s141_50, s141_51, s141_54, s141_56, rs_g K, List.getElem?_cons_zero, List.getElem?_cons_succ, Option.bind_some, Option.toList_some, Option.toList_none, List.cons_append, List.nil_append, not_true_eq_false, if_false, if_true, sb, if_pos e1, if_neg ((z c2 hc.2.2.1).1 d2)]
        rfl
      · rw [if_neg d2]
        have e2 := (z c2 hc.2.2.1).2 d2
        by_cases d3 : c3 = 0
        · rw [if_pos d3]
          simp (disch := first | assumption | decide) only [s141_0, s141_1, s141_4, s141_5, s141_8, s141_9, s141_11, s141_12, s141_15, s141_16, s141_19, s141_20, s141_23, s141_24, s141_27, s141_29, s141_32, s141_33, s141_36, s141_38, s141_41, s141_42, s141_45, s141_47, s141_50, s141_51, s141_54, s141_56, rs_g K, List.getElem?_cons_zero, List.getElem?_cons_succ, Option.bind_some, Option.toList_some, Option.toList_none, List.cons_append, List.nil_append, not_true_eq_false, if_false, if_true, sb, if_pos e1, if_pos e2, if_neg ((z c3 hc.2.2.2.1).1 d3)]
          rfl
        · rw [if_neg d3]
          have e3 := (z c3 hc.2.2.2.1).2 d3
          by_cases d4 : c4 = 0
          · rw [if_pos d4]
            simp (disch := first | assumption | decide) only [s141_0, s141_1, s141_4, s141_5, s141_8, s141_9, s141_11, s141_12, s141_15, s141_16, s141_19, s141_20, s141_23, s141_24, s141_27, s141_29, s141_32, s141_33, s141_36, s141_38, s141_41, s141_42, s141_45, s141_47, s141_50, s141_51, s141_54, s141_56, rs_g K, List.getElem?_cons_zero, List.getElem?_cons_succ, Option.bind_some, Option.toList_some, Option.toList_none, List.cons_append, List.nil_append, not_true_eq_false, if_false, if_true, sb, if_pos e1, if_pos e2, if_pos e3, if_neg ((z c4 hc.2.2.2.2.1).1 d4)]
            rfl
          · rw [if_neg d4]
            have e4 := (z c4 hc.2.2.2.2.1).2 d4
            by_cases d5 : c5 = 0
            · rw [if_pos d5]
              simp (disch := first | assumption | decide) only [s141_0, s141_1, s141_4, s141_5, s141_8, s141_9, s141_11, s141_12, s141_15, s141_16, s141_19, s141_20, s141_23, s141_24, s141_27, s141_29, s141_32, s141_33, s141_36, s141_38, s141_41, s141_42, s141_45, s141_47, s141_50, s141_51, s141_54, s141_56, rs_g K, List.getElem?_cons_zero, List.getElem?_cons_succ, Option.bind_some, Option.toList_some, Option.toList_none, List.cons_append, List.nil_append, not_true_eq_false, if_false, if_true, sb, if_pos e1, if_pos e2, if_pos e3, if_pos e4, if_neg ((z c5 hc.2.2.2.2.2).1 d5)]
              rfl
            · rw [if_neg d5]
              have e5 := (z c5 hc.2.2.2.2.2).2 d5
              simp (disch := first | assumption | decide) only [s141_0, s141_1, s141_4, s141_5, s141_8, s141_9, s141_11, s141_12, s141_15, s141_16, s141_19, s141_20, s141_23, s141_24, s141_27, s141_29, s141_32, s141_33, s141_36, s141_38, s141_41, s141_42, s141_45, s141_47, s141_50, s141_51, s141_54, s141_56, rs_g K, List.getElem?_cons_zero, List.getElem?_cons_succ, Option.bind_some, Option.toList_some, Option.toList_none, List.cons_append, List.nil_append, not_true_eq_false, if_false, if_true, sb, if_pos e1, if_pos e2, if_pos e3, if_pos e4, if_pos e5]
              rfl
  rw [due]
  have ne : ∀ i c, c < 128 → ¬ S.getD (wF S p + i) 0 = c → ¬ nI (S.getD (wF S p + i) 0) = nI c := fun i c h1 h2 y => h2 ((nI_eq (by have := lt_b E (wF S p + i); omega) (by omega)).mp y)
  have al : ∀ i, i < wT S p - wF S p → ex_al w 41 0 (nI (wF S p + i)) = some (nI (S.getD (wF S p + i) 0)) := fun i hi => rs_al K E (by omega)
  have n2 : nI (wF S p) + 2 = nI (wF S p + 2) := nI_add _ 2
  have n3 : nI (wF S p) + 3 = nI (wF S p + 3) := nI_add _ 3
  have n4 : nI (wF S p) + 4 = nI (wF S p + 4) := nI_add _ 4
  have n5 : nI (wF S p) + 5 = nI (wF S p + 5) := nI_add _ 5
  by_cases q0 : wT S p - wF S p = xs.length
  · have f0 : ¬ ¬ nI (wT S p - wF S p) = nI xs.length := fun y => y (by rw [q0])
    have al0 := al 0 (by omega)
    rw [Nat.add_zero] at al0
    have ne0 := ne 0
    rw [Nat.add_zero] at ne0
    by_cases q1 : S.getD (wF S p) 0 = c0
    · have f1 : ¬ ¬ nI (S.getD (wF S p) 0) = nI c0 := fun y => y (by rw [q1])
      -- behind the first letter
      have st1 : ∀ o, ex_go X 141 78 [(0, .ref 32), (1, .int (nI c0)), (2, .int (nI c1)), (3, .int (nI c2)), (4, .int (nI c3)), (5, .int (nI c4)), (6, .int (nI c5)), (7, .int (nI (wT S p - wF S p))), (8, .int (nI xs.length))] [] w = o → ex_go X 141 58 [(0, .ref 32), (1, .int (nI c0)), (2, .int (nI c1)), (3, .int (nI c2)), (4, .int (nI c3)), (5, .int (nI c4)), (6, .int (nI c5)), (7, .int (nI (wT S p - wF S p))), (8, .int (nI xs.length))] [] w = o := by
        intro o h
        rw [← h]
        simp (disch := first | assumption | decide) only [s141_58, s141_60, s141_62, s141_65, s141_66, s141_69, s141_70, s141_73, s141_74, s141_75, if_neg f0, rs_g K, List.getElem?_cons_zero, List.getElem?_cons_succ, Option.bind_some, Option.toList_some, Option.toList_none, List.cons_append, List.nil_append, not_true_eq_false, if_false, if_true, al0, if_neg f1]
      apply st1
      by_cases q2 : 1 < wT S p - wF S p → S.getD (wF S p + 1) 0 = c1
      · have st2 : ex_go X 141 78 [(0, .ref 32), (1, .int (nI c0)), (2, .int (nI c1)), (3, .int (nI c2)), (4, .int (nI c3)), (5, .int (nI c4)), (6, .int (nI c5)), (7, .int (nI (wT S p - wF S p))), (8, .int (nI xs.length))] [] w = ex_go X 141 99 [(0, .ref 32), (3, .int (nI c2)), (4, .int (nI c3)), (5, .int (nI c4)), (6, .int (nI c5)), (7, .int (nI (wT S p - wF S p)))] [] w := by
          by_cases c : 1 < wT S p - wF S p
          · have e : ¬ nI (wT S p - wF S p) ≤ 1 := nI_ge (a := 1) c (by omega)
            have f2 : ¬ ¬ nI (S.getD (wF S p + 1) 0) = nI c1 := fun y => y (by rw [q2 c])
            simp (disch := first | assumption | decide) only [s141_78, s141_80, s141_81, s141_84, s141_85, s141_88, s141_89, s141_92, s141_93, s141_94, s141_95, s141_96, if_neg e, rs_g K, List.getElem?_cons_zero, List.getElem?_cons_succ, Option.bind_some, Option.toList_some, Option.toList_none, List.cons_append, List.nil_append, not_true_eq_false, if_false, if_true, nI_1, al 1 c, if_neg f2]
          · have e : nI (wT S p - wF S p) ≤ 1 := nI_le (b := 1) (by omega) (by decide)
            simp (disch := first | assumption | decide) only [s141_78, s141_80, s141_81, s141_84, s141_85, s141_88, s141_89, s141_92, s141_93, s141_94, s141_95, s141_96, if_pos e]
        rw [st2]
        by_cases q3 : 2 < wT S p - wF S p → S.getD (wF S p + 2) 0 = c2
        · have st3 : ex_go X 141 99 [(0, .ref 32), (3, .int (nI c2)), (4, .int (nI c3)), (5, .int (nI c4)), (6, .int (nI c5)), (7, .int (nI (wT S p - wF S p)))] [] w = ex_go X 141 122 [(0, .ref 32), (4, .int (nI c3)), (5, .int (nI c4)), (6, .int (nI c5)), (7, .int (nI (wT S p - wF S p)))] [] w := by
            by_cases c : 2 < wT S p - wF S p
            · have e : ¬ nI (wT S p - wF S p) ≤ 2 := nI_ge (a := 2) c (by omega)
              have f2 : nI (S.getD (wF S p + 2) 0) = nI c2 := by rw [q3 c]
              simp (disch := first | assumption | decide) only [s141_99, s141_101, s141_102, s141_105, s141_106, s141_109, s141_110, s141_113, s141_114, s141_115, s141_116, s141_117, if_neg e, rs_g K, List.getElem?_cons_zero, List.getElem?_cons_succ, Option.bind_some, Option.toList_some, Option.toList_none, List.cons_append, List.nil_append, not_true_eq_false, if_false, if_true, n2, al 2 c, if_pos f2]
            · have e : nI (wT S p - wF S p) ≤ 2 := nI_le (b := 2) (by omega) (by decide)
              simp (disch := first | assumption | decide) only [s141_99, s141_101, s141_102, s141_105, s141_106, s141_109, s141_110, s141_113, s141_114, s141_115, s141_116, s141_117, if_pos e]
          rw [st3]
          by_cases q4 : 3 < wT S p - wF S p → S.getD (wF S p + 3) 0 = c3
          · have st4 : ex_go X 141 122 [(0, .ref 32), (4, .int (nI c3)), (5, .int (nI c4)), (6, .int (nI c5)), (7, .int (nI (wT S p - wF S p)))] [] w = ex_go X 141 144 [(0, .ref 32), (5, .int (nI c4)), (6, .int (nI c5)), (7, .int (nI (wT S p - wF S p)))] [] w := by
              by_cases c : 3 < wT S p - wF S p
              · have e : ¬ nI (wT S p - wF S p) ≤ 3 := nI_ge (a := 3) c (by omega)
                have f2 : ¬ ¬ nI (S.getD (wF S p + 3) 0) = nI c3 := fun y => y (by rw [q4 c])
                simp (disch := first | assumption | decide) only [s141_122, s141_124, s141_125, s141_128, s141_129, s141_132, s141_133, s141_136, s141_137, s141_138, s141_139, s141_141, if_neg e, rs_g K, List.getElem?_cons_zero, List.getElem?_cons_succ, Option.bind_some, Option.toList_some, Option.toList_none, List.cons_append, List.nil_append, not_true_eq_false, if_false, if_true, n3, al 3 c, if_neg f2]
              · have e : nI (wT S p - wF S p) ≤ 3 := nI_le (b := 3) (by omega) (by decide)
                simp (disch := first | assumption | decide) only [s141_122, s141_124, s141_125, s141_128, s141_129, s141_132, s141_133, s141_136, s141_137, s141_138, s141_139, s141_141, if_pos e]
            rw [st4]
            by_cases q5 : 4 < wT S p - wF S p → S.getD (wF S p + 4) 0 = c4
            · have st5 : ex_go X 141 144 [(0, .ref 32), (5, .int (nI c4)), (6, .int (nI c5)), (7, .int (nI (wT S p - wF S p)))] [] w = ex_go X 141 166 [(0, .ref 32), (6, .int (nI c5)), (7, .int (nI (wT S p - wF S p)))] [] w := by
                by_cases c : 4 < wT S p - wF S p
                · have e : ¬ nI (wT S p - wF S p) ≤ 4 := nI_ge (a := 4) c (by omega)
                  have f2 : ¬ ¬ nI (S.getD (wF S p + 4) 0) = nI c4 := fun y => y (by rw [q5 c])
                  simp (disch := first | assumption | decide) only [s141_144, s141_146, s141_147, s141_150, s141_151, s141_154, s141_155, s141_158, s141_159, s141_160, s141_161, s141_163, if_neg e, rs_g K, List.getElem?_cons_zero, List.getElem?_cons_succ, Option.bind_some, Option.toList_some, Option.toList_none, List.cons_append, List.nil_append, not_true_eq_false, if_false, if_true, n4, al 4 c, if_neg f2]
                · have e : nI (wT S p - wF S p) ≤ 4 := nI_le (b := 4) (by omega) (by decide)
                  simp (disch := first | assumption | decide) only [s141_144, s141_146, s141_147, s141_150, s141_151, s141_154, s141_155, s141_158, s141_159, s141_160, s141_161, s141_163, if_pos e]
              rw [st5]
              by_cases q6 : 5 < wT S p - wF S p → S.getD (wF S p + 5) 0 = c5
              · rw [if_pos (cn.mpr ⟨q0, q1, q2, q3, q4, q5, q6⟩)]
                by_cases c : 5 < wT S p - wF S p
                · have e : ¬ nI (wT S p - wF S p) ≤ 5 := nI_ge (a := 5) c (by omega)
                  have f2 : ¬ ¬ nI (S.getD (wF S p + 5) 0) = nI c5 := fun y => y (by rw [q6 c])
                  simp (disch := first | assumption | decide) only [s141_166, s141_168, s141_169, s141_172, s141_173, s141_176, s141_177, s141_180, s141_181, s141_182, s141_183, s141_185, s141_188, s141_189, s141_192, s141_193, if_neg e, rs_g K, List.getElem?_cons_zero, List.getElem?_cons_succ, Option.bind_some, Option.toList_some, Option.toList_none, List.cons_append, List.nil_append, not_true_eq_false, if_false, if_true, n5, al 5 c, if_neg f2]
                · have e : nI (wT S p - wF S p) ≤ 5 := nI_le (b := 5) (by omega) (by decide)
                  simp (disch := first | assumption | decide) only [s141_166, s141_168, s141_169, s141_172, s141_173, s141_176, s141_177, s141_180, s141_181, s141_182, s141_183, s141_185, s141_188, s141_189, s141_192, s141_193, if_pos e]
              · rw [if_neg (fun y => q6 (cn.mp y).2.2.2.2.2.2)]
                have c : 5 < wT S p - wF S p := Classical.byContradiction (fun y => q6 (fun x => absurd x y))
                have e : ¬ nI (wT S p - wF S p) ≤ 5 := nI_ge (a := 5) c (by omega)
                have f2 := ne 5 c5 hc.2.2.2.2.2 (fun y => q6 (fun _ => y))
                simp (disch := first | assumption | decide) only [s141_166, s141_168, s141_169, s141_172, s141_173, s141_176, s141_177, s141_180, s141_181, s141_182, s141_183, s141_185, s141_188, s141_189, s141_192, s141_193, if_neg e, rs_g K, List.getElem?_cons_zero, List.getElem?_cons_succ, Option.bind_some, Option.toList_some, Option.toList_none, List.cons_append, List.nil_append, not_true_eq_false, if_false, if_true, n5, al 5 c, if_pos f2]
            · rw [if_neg (fun y => q5 (cn.mp y).2.2.2.2.2.1)]
              have c : 4 < wT S p - wF S p := Classical.byContradiction (fun y => q5 (fun x => absurd x y))
              have e : ¬ nI (wT S p - wF S p) ≤ 4 := nI_ge (a := 4) c (by omega)
              have f2 := ne 4 c4 hc.2.2.2.2.1 (fun y => q5 (fun _ => y))
              simp (disch := first | assumption | decide) only [s141_144, s141_146, s141_147, s141_150, s141_151, s141_154, s141_155, s141_158, s141_159, s141_160, s141_161, s141_163, s141_192, s141_193, if_neg e, rs_g K, List.getElem?_cons_zero, List.getElem?_cons_succ, Option.bind_some, Option.toList_some, Option.toList_none, List.cons_append, List.nil_append, not_true_eq_false, if_false, if_true, n4, al 4 c, if_pos f2]
          · rw [if_neg (fun y => q4 (cn.mp y).2.2.2.2.1)]
            have c : 3 < wT S p - wF S p := Classical.byContradiction (fun y => q4 (fun x => absurd x y))
            have e : ¬ nI (wT S p - wF S p) ≤ 3 := nI_ge (a := 3) c (by omega)
            have f2 := ne 3 c3 hc.2.2.2.1 (fun y => q4 (fun _ => y))
            simp (disch := first | assumption | decide) only [s141_122, s141_124, s141_125, s141_128, s141_129, s141_132, s141_133, s141_136, s141_137, s141_138, s141_139, s141_141, s141_192, s141_193, if_neg e, rs_g K, List.getElem?_cons_zero, List.getElem?_cons_succ, Option.bind_some, Option.toList_some, Option.toList_none, List.cons_append, List.nil_append, not_true_eq_false, if_false, if_true, n3, al 3 c, if_pos f2]
        · rw [if_neg (fun y => q3 (cn.mp y).2.2.2.1)]
          have c : 2 < wT S p - wF S p := Classical.byContradiction (fun y => q3 (fun x => absurd x y))
          have e : ¬ nI (wT S p - wF S p) ≤ 2 := nI_ge (a := 2) c (by omega)
          have f2 := ne 2 c2 hc.2.2.1 (fun y => q3 (fun _ => y))
          simp (disch := first | assumption | decide) only [s141_99, s141_101, s141_102, s141_105, s141_106, s141_109, s141_110, s141_113, s141_114, s141_115, s141_116, s141_117, s141_120, s141_121, if_neg e, rs_g K, List.getElem?_cons_zero, List.getElem?_cons_succ, Option.bind_some, Option.toList_some, Option.toList_none, List.cons_append, List.nil_append, not_true_eq_false, if_false, if_true, n2, al 2 c, if_neg f2]
      · rw [if_neg (fun y => q2 (cn.mp y).2.2.1)]
        have c : 1 < wT S p - wF S p := Classical.byContradiction (fun y => q2 (fun x => absurd x y))
        have e : ¬ nI (wT S p - wF S p) ≤ 1 := nI_ge (a := 1) c (by omega)
        have f2 := ne 1 c1 hc.2.1 (fun y => q2 (fun _ => y))
        simp (disch := first | assumption | decide) only [s141_78, s141_80, s141_81, s141_84, s141_85, s141_88, s141_89, s141_92, s141_93, s141_94, s141_95, s141_96, s141_120, s141_121, if_neg e, rs_g K, List.getElem?_cons_zero, List.getElem?_cons_succ, Option.bind_some, Option.toList_some, Option.toList_none, List.cons_append, List.nil_append, not_true_eq_false, if_false, if_true, nI_1, al 1 c, if_pos f2]
    · rw [if_neg (fun y => q1 (cn.mp y).2.1)]
      have f1 := ne0 c0 hc.1 q1
      simp (disch := first | assumption | decide) only [s141_58, s141_60, s141_62, s141_65, s141_66, s141_69, s141_70, s141_73, s141_74, s141_75, s141_120, s141_121, if_neg f0, rs_g K, List.getElem?_cons_zero, List.getElem?_cons_succ, Option.bind_some, Option.toList_some, Option.toList_none, List.cons_append, List.nil_append, not_true_eq_false, if_false, if_true, al0, if_pos f1]
  · rw [if_neg (fun y => q0 (cn.mp y).1)]
    have f0 : ¬ nI (wT S p - wF S p) = nI xs.length := fun y => q0 ((nI_eq (by omega) (by omega)).mp y)
    simp (disch := first | assumption | decide) only [s141_58, s141_60, s141_62, s141_120, s141_121, if_pos f0]
theorem y_hex {c : Nat} (hc : c < 256) : (hexC c → ex_call X 152 [.int (nI c)] w = some (some (.int (nI (hexV c))), w)) ∧ (¬ hexC c → ex_call X 152 [.int (nI c)] w = some (some (.int (-1)), w)) := by
  have h1 : ¬ c < 48 → ¬ nI c < 48 := fun h => nI_nlt (b := 48) (by omega) (by omega)
  have h1' : c < 48 → nI c < 48 := fun h => nI_lt (b := 48) h (by decide)
  have h2 : ¬ 57 < c → ¬ 57 < nI c := fun h => nI_nlt (a := 57) (by omega) (by decide)
  have h2' : 57 < c → 57 < nI c := fun h => nI_lt (a := 57) h (by omega)
  have h3 : ¬ c < 97 → ¬ nI c < 97 := fun h => nI_nlt (b := 97) (by omega) (by omega)
  have h3' : c < 97 → nI c < 97 := fun h => nI_lt (b := 97) h (by decide)
  have h4 : ¬ 102 < c → ¬ 102 < nI c := fun h => nI_nlt (a := 102) (by omega) (by decide)
  have h4' : 102 < c → 102 < nI c := fun h => nI_lt (a := 102) h (by omega)
  constructor
  · intro h
    show ex_go X 152 0 [(0, .int (nI c))] [] w = _
    unfold hexV
    rcases h with h | h
    · have ed : nI c - 48 = nI (c - 48) := pk_sub (b := 48) h.1
      rw [if_pos h.2]
      simp (disch := first | assumption | decide) only [s152_0, s152_1, s152_3, s152_6, s152_7, s152_9, s152_12, s152_13, s152_15, s152_16, s152_19, s152_20, s152_22, s152_25, s152_26, s152_28, s152_31, s152_32, s152_34, s152_35, s152_37, s152_38, s152_41, s152_42, if_neg (h1 (by omega)), if_neg (h2 (by omega)), ed]
    · have ed : nI c - 97 + 10 = nI (c - 87) := by
        have : nI c - 97 = nI (c - 97) := pk_sub (b := 97) h.1
        rw [this, show c - 87 = c - 97 + 10 by omega]
        exact nI_add _ 10
      rw [if_neg (by omega)]
      simp (disch := first | assumption | decide) only [s152_0, s152_1, s152_3, s152_6, s152_7, s152_9, s152_12, s152_13, s152_15, s152_16, s152_19, s152_20, s152_22, s152_25, s152_26, s152_28, s152_31, s152_32, s152_34, s152_35, s152_37, s152_38, s152_41, s152_42, if_neg (h1 (by omega)), if_pos (h2' (by omega)), if_neg (h3 (by omega)), if_neg (h4 (by omega)), ed]
  · intro h
    show ex_go X 152 0 [(0, .int (nI c))] [] w = _
    by_cases c1 : c < 48
    · simp (disch := first | assumption | decide) only [s152_0, s152_1, s152_3, s152_6, s152_7, s152_9, s152_12, s152_13, s152_15, s152_16, s152_19, s152_20, s152_22, s152_25, s152_26, s152_28, s152_31, s152_32, s152_34, s152_35, s152_37, s152_38, s152_41, s152_42, if_pos (h1' c1), if_pos (h3' (by omega))]
    · by_cases c2 : c < 97
      · simp (disch := first | assumption | decide) only [s152_0, s152_1, s152_3, s152_6, s152_7, s152_9, s152_12, s152_13, s152_15, s152_16, s152_19, s152_20, s152_22, s152_25, s152_26, s152_28, s152_31, s152_32, s152_34, s152_35, s152_37, s152_38, s152_41, s152_42, if_neg (h1 c1), if_pos (h2' (by omega)), if_pos (h3' c2)]
      · simp (disch := first | assumption | decide) only [s152_0, s152_1, s152_3, s152_6, s152_7, s152_9, s152_12, s152_13, s152_15, s152_16, s152_19, s152_20, s152_22, s152_25, s152_26, s152_28, s152_31, s152_32, s152_34, s152_35, s152_37, s152_38, s152_41, s152_42, if_neg (h1 c1), if_pos (h2' (by omega)), if_neg (h3 c2), if_pos (h4' (by omega))]
/-- what a call of the other object's does, by what the words say -/
def outR (w0 : ex_W) (A : Nat → Int32) (S : List Nat) (o : ex_O) (r : PR) (M : List Nat) (b q ca : Nat) (ls : List Nat) (ns : NM) : Prop := (∀ t xs, r = .inr (t, xs) → ∃ w2 fr2 to2 v2, o = some (some (.int 1), w2) ∧ RS w0 A w2 S t fr2 to2 v2 (M ++ xs) (b + xs.length) q ca ls ns ∧ t ≤ S.length ∧ b + xs.length ≤ 120) ∧ (∀ f, r = .inl f → ∃ w2, o = some (some (.int 0), w2) ∧ RF w0 A w2 f)
theorem shr0 (v : Int64) : v >>> (((8 : Int32) * nI 0).toInt64 &&& 63) = v := by
  have e : (((8 : Int32) * nI 0).toInt64 &&& 63) = 0 := by decide +kernel
  rw [e]
  exact Int64.shiftRight_zero
theorem byt0 (v : Int64) : v.toInt32 &&& 255 = nI (byt v 0) := by
  have := byt_and v 0
  rw [shr0] at this
  exact this
theorem y_readByte {lo hi : Int32} (K : RS w0 A w S p fr to v M b q ca ls ns) (E : isSr w0 S) (hp : p ≤ S.length) (hM : M.length ≤ b) (hb : b ≤ 120) : outR w0 A S (ex_call X 143 [.ref 32, .int lo, .int hi] w) (one S p (rNum S lo.toInt64 hi.toInt64 1 p b)) M b q ca ls ns := by
  have rc := rs_rc K
  have n1 : ¬ (1 : Int32) = 0 := by decide
  have wb := w_b hp
  have rn := y_readNumber (X := X) (lo := lo.toInt64) (hi := hi.toInt64) K E hp
  unfold rNum
  by_cases c : ∃ u, rdN S p = some u ∧ lo.toInt64 ≤ u ∧ u ≤ hi.toInt64
  · obtain ⟨u, c1, c2, c3⟩ := c
    obtain ⟨w1, a1, K1⟩ := rn.1 u c1 c2 c3
    have rc1 := rs_rc K1
    have rm := y_room (X := X) (n := 1) K1 hb (by decide)
    rw [c1]
    by_cases cR : b + 1 ≤ 120
    · obtain ⟨w2, a2, K2⟩ := rm.1 cR
      have a2 : ex_call X 146 [.ref 32, .int 1] w1 = some (some (.int 1), w2) := a2
      have rc2 := rs_rc K2
      obtain ⟨w3, a3, K3⟩ := y_add (X := X) (x := u.toInt32) (c := byt u 0) K2 (by omega) (byt0 u)
      have e : one S p (if lo.toInt64 ≤ u ∧ u ≤ hi.toInt64 ∧ b + 1 ≤ 120 then some (lowBy u 1) else none) = .inr (wT S p, [byt u 0]) := by
        rw [if_pos ⟨c2, c3, cR⟩]
        rfl
      show outR w0 A S _ (one S p (if lo.toInt64 ≤ u ∧ u ≤ hi.toInt64 ∧ b + 1 ≤ 120 then some (lowBy u 1) else none)) M b q ca ls ns
      rw [e]
      refine ⟨fun t xs z => ?_, fun f z => (by cases z)⟩
      cases z
      refine ⟨w3, _, _, _, ?_, K3, wb.2.2.1, cR⟩
      show ex_go X 143 0 [(0, .ref 32), (1, .int lo), (2, .int hi)] [] w = _
      simp (disch := first | assumption | decide) only [s143_0, s143_1, s143_2, s143_3, s143_4, s143_5, s143_8, s143_11, s143_12, s143_13, s143_16, s143_19, s143_20, s143_21, s143_22, s143_23, s143_26, s143_27, s143_30, s143_31, a1, List.getElem?_cons_zero, List.getElem?_cons_succ, Option.bind_some, Option.toList_some, Option.toList_none, List.cons_append, List.nil_append, not_true_eq_false, if_false, if_true, if_neg n1, a2, if_pos n1, rs_g K2, a3]
    · obtain ⟨w2, a2, F2⟩ := rm.2 cR
      have a2 : ex_call X 146 [.ref 32, .int 1] w1 = some (some (.int 0), w2) := a2
      have e : one S p (if lo.toInt64 ≤ u ∧ u ≤ hi.toInt64 ∧ b + 1 ≤ 120 then some (lowBy u 1) else none) = .inl (wF S p) := by
        rw [if_neg (fun z => cR z.2.2)]
        rfl
      show outR w0 A S _ (one S p (if lo.toInt64 ≤ u ∧ u ≤ hi.toInt64 ∧ b + 1 ≤ 120 then some (lowBy u 1) else none)) M b q ca ls ns
      rw [e]
      refine ⟨fun t xs z => (by cases z), fun f z => ?_⟩
      cases z
      refine ⟨w2, ?_, F2⟩
      show ex_go X 143 0 [(0, .ref 32), (1, .int lo), (2, .int hi)] [] w = _
      simp (disch := first | assumption | decide) only [s143_0, s143_1, s143_2, s143_3, s143_4, s143_5, s143_8, s143_11, s143_12, s143_13, s143_16, s143_19, s143_20, s143_21, s143_22, s143_23, s143_26, s143_27, s143_30, s143_31, a1, List.getElem?_cons_zero, List.getElem?_cons_succ, Option.bind_some, Option.toList_some, Option.toList_none, List.cons_append, List.nil_append, not_true_eq_false, if_false, if_true, if_neg n1, a2]
  · obtain ⟨w1, a1, F1⟩ := rn.2 c
    have e : one S p (match rdN S p with | some v => if lo.toInt64 ≤ v ∧ v ≤ hi.toInt64 ∧ b + 1 ≤ 120 then some (lowBy v 1) else none | none => none) = .inl (wF S p) := by
      cases hr : rdN S p with
      | none => rfl
      | some u =>
        show one S p (if lo.toInt64 ≤ u ∧ u ≤ hi.toInt64 ∧ b + 1 ≤ 120 then some (lowBy u 1) else none) = _
        rw [if_neg (fun z => c ⟨u, hr, z.1, z.2.1⟩)]
        rfl
    show outR w0 A S _ (one S p (match rdN S p with | some v => if lo.toInt64 ≤ v ∧ v ≤ hi.toInt64 ∧ b + 1 ≤ 120 then some (lowBy v 1) else none | none => none)) M b q ca ls ns
    rw [e]
    refine ⟨fun t xs z => (by cases z), fun f z => ?_⟩
    cases z
    refine ⟨w1, ?_, F1⟩
    show ex_go X 143 0 [(0, .ref 32), (1, .int lo), (2, .int hi)] [] w = _
    simp (disch := first | assumption | decide) only [s143_0, s143_1, s143_2, s143_3, s143_4, s143_5, s143_8, s143_11, s143_12, s143_13, s143_16, s143_19, s143_20, s143_21, s143_22, s143_23, s143_26, s143_27, s143_30, s143_31, a1, List.getElem?_cons_zero, List.getElem?_cons_succ, Option.bind_some, Option.toList_some, Option.toList_none, List.cons_append, List.nil_append, not_true_eq_false, if_false, if_true]
theorem y_wideAdd {u : Int64} : ∀ (k : Nat) (M : List Nat) (w : ex_W), RS w0 A w S p fr to u M b q ca ls ns → M.length + k ≤ 140 → ∃ w2, ex_go X 150 25 [(0, .ref 32), (6, .int (nI k - 1))] [] w = some (some (.int 1), w2) ∧ RS w0 A w2 S p fr to u (M ++ lowBy u k) b q ca ls ns := by
  intro k
  induction k with
  | zero =>
    intro M w K h
    have e : nI 0 - 1 < 0 := by decide
    refine ⟨w, ?_, by rw [lowBy, List.append_nil]; exact K⟩
    simp (disch := first | assumption | decide) only [s150_25, s150_27, s150_30, s150_31, s150_32, s150_35, s150_37, s150_39, s150_40, s150_41, s150_42, s150_45, s150_48, s150_51, s150_52, if_pos e]
  | succ k ih =>
    intro M w K h
    rw [nI_pred]
    have e : ¬ nI k < 0 := nI_pos (by omega)
    have rc := rs_rc K
    obtain ⟨w2, a2, K2⟩ := y_add (X := X) (c := byt u k) K (by omega) (byt_and u k)
    obtain ⟨w3, a3, K3⟩ := ih _ w2 K2 (by rw [List.length_append, List.length_singleton]; omega)
    have em : nI k + (-1) = nI k - 1 := by rw [Int32.sub_eq_add_neg]
    refine ⟨w3, ?_, by rw [lowBy]; simp only [List.append_assoc, List.cons_append, List.nil_append] at K3 ⊢; exact K3⟩
    rw [s150_25]
    simp (disch := first | assumption | decide) only [s150_27, s150_30, s150_31, s150_32, s150_35, s150_37, s150_39, s150_40, s150_41, s150_42, s150_45, s150_48, if_neg e, rs_g K, List.getElem?_cons_zero, List.getElem?_cons_succ, Option.bind_some, Option.toList_some, Option.toList_none, List.cons_append, List.nil_append, not_true_eq_false, if_false, if_true, a2, em, a3]
theorem y_readWide {k : Nat} {lo hi : Int64} (K : RS w0 A w S p fr to v M b q ca ls ns) (E : isSr w0 S) (hp : p ≤ S.length) (hM : M.length ≤ b) (hb : b ≤ 120) (hk : k < 2 ^ 20) : outR w0 A S (ex_call X 150 [.ref 32, .int (nI k), .long lo, .long hi] w) (one S p (rNum S lo hi k p b)) M b q ca ls ns := by
  have rc := rs_rc K
  have n1 : ¬ (1 : Int32) = 0 := by decide
  have wb := w_b hp
  have rn := y_readNumber (X := X) (lo := lo) (hi := hi) K E hp
  have bad : rNum S lo hi k p b = none → (∃ w2, ex_call X 150 [.ref 32, .int (nI k), .long lo, .long hi] w = some (some (.int 0), w2) ∧ RF w0 A w2 (wF S p)) → outR w0 A S (ex_call X 150 [.ref 32, .int (nI k), .long lo, .long hi] w) (one S p (rNum S lo hi k p b)) M b q ca ls ns := by
    intro h1 h2
    rw [h1]
    refine ⟨fun t xs z => (by cases z), fun f z => ?_⟩
    cases z
    exact h2
  by_cases c : ∃ u, rdN S p = some u ∧ lo ≤ u ∧ u ≤ hi
  · obtain ⟨u, c1, c2, c3⟩ := c
    obtain ⟨w1, a1, K1⟩ := rn.1 u c1 c2 c3
    have rc1 := rs_rc K1
    have rm := y_room (X := X) (n := k) K1 hb hk
    by_cases cR : b + k ≤ 120
    · obtain ⟨w2, a2, K2⟩ := rm.1 cR
      obtain ⟨w3, a3, K3⟩ := y_wideAdd (X := X) k M w2 K2 (by omega)
      have e : rNum S lo hi k p b = some (lowBy u k) := by
        unfold rNum
        rw [c1]
        exact if_pos ⟨c2, c3, cR⟩
      rw [e]
      refine ⟨fun t xs z => ?_, fun f z => (by cases z)⟩
      cases z
      refine ⟨w3, _, _, _, ?_, by rw [lowBy_len]; exact K3, wb.2.2.1, by rw [lowBy_len]; exact cR⟩
      show ex_go X 150 0 [(0, .ref 32), (1, .int (nI k)), (2, .long lo), (4, .long hi)] [] w = _
      simp (disch := first | assumption | decide) only [s150_0, s150_1, s150_2, s150_4, s150_7, s150_10, s150_11, s150_12, s150_15, s150_18, s150_19, s150_20, s150_21, s150_22, s150_23, a1, List.getElem?_cons_zero, List.getElem?_cons_succ, Option.bind_some, Option.toList_some, Option.toList_none, List.cons_append, List.nil_append, not_true_eq_false, if_false, if_true, if_neg n1, a2, if_pos n1, a3]
    · obtain ⟨w2, a2, F2⟩ := rm.2 cR
      refine bad ?_ ⟨w2, ?_, F2⟩
      · unfold rNum
        rw [c1]
        exact if_neg (fun z => cR z.2.2)
      · show ex_go X 150 0 [(0, .ref 32), (1, .int (nI k)), (2, .long lo), (4, .long hi)] [] w = _
        simp (disch := first | assumption | decide) only [s150_0, s150_1, s150_2, s150_4, s150_7, s150_10, s150_11, s150_12, s150_15, s150_18, s150_19, a1, List.getElem?_cons_zero, List.getElem?_cons_succ, Option.bind_some, Option.toList_some, Option.toList_none, List.cons_append, List.nil_append, not_true_eq_false, if_false, if_true, if_neg n1, a2]
  · obtain ⟨w1, a1, F1⟩ := rn.2 c
    refine bad ?_ ⟨w1, ?_, F1⟩
    · unfold rNum
      cases hr : rdN S p with
      | none => rfl
      | some u => exact if_neg (fun z => c ⟨u, hr, z.1, z.2.1⟩)
    · show ex_go X 150 0 [(0, .ref 32), (1, .int (nI k)), (2, .long lo), (4, .long hi)] [] w = _
      simp (disch := first | assumption | decide) only [s150_0, s150_1, s150_2, s150_4, s150_7, s150_10, s150_11, s150_12, s150_15, s150_18, s150_19, a1, List.getElem?_cons_zero, List.getElem?_cons_succ, Option.bind_some, Option.toList_some, Option.toList_none, List.cons_append, List.nil_append, not_true_eq_false, if_false, if_true]
end REF3
