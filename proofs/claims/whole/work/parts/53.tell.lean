/-! both objects tell a block -/
section TELL4
variable {X : Option (List Int32)} {w0 w : ex_W} {m : Nat → Int32} {v : Int64} {t : List Nat} {ds bg ln bs : List Int32} {B : List Nat} {p : Nat}
theorem y_tellEntry (S : isTx w0 w m v t ds bg ln) (Y : isBm w0 bs B) (hE : eEnd B p ≤ B.length) (h120 : B.length ≤ 120) (hl : t.length + 7 * (eEnd B p - p) ≤ 808) : ∃ ds2 w2, ex_call X 112 [.ref 32, .int (nI p)] w = some (some (.int (nI (eEnd B p))), w2) ∧ isTx w0 w2 m v (t ++ entT B p ++ [10]) ds2 bg ln := by
  obtain ⟨k1, k2, k3, k4, k5, k6⟩ := tx_lens
  have hb0 := Y.2.2.2 p
  have hb1 := Y.2.2.2 (p + 1)
  have hb2 := Y.2.2.2 (p + 2)
  have rc := tx_rc S
  have n2 : nI p + 2 = nI (p + 2) := nI_add p 2
  have hpB : p < B.length := by
    unfold eEnd at hE
    split at hE
    next => omega
    next =>
      split at hE
      next => omega
      next => split at hE <;> omega
  have h0 := y_blk (tx_B S Y) (p := p) hpB
  have fin : ∀ (n : Nat) (t2 : List Nat) (ds2 : List Int32) (w2 : ex_W), isTx w0 w2 m v t2 ds2 bg ln → t2.length < 1000 → ∃ w3, ex_go X 112 165 [(0, .ref 32), (1, .int (nI p)), (3, .int (nI n))] [] w2 = some (some (.int (nI (p + n))), w3) ∧ isTx w0 w3 m v (t2 ++ [10]) ds2 bg ln := by
    intro n t2 ds2 w2 S2 hl2
    have rc2 := tx_rc S2
    obtain ⟨w3, a3, S3⟩ := y_say (X := X) (c := 10) S2 hl2
    have a3 : ex_call X 109 [.ref 32, .int 10] w2 = some (none, w3) := a3
    refine ⟨w3, ?_, S3⟩
    simp (disch := first | assumption | decide) only [s112_165, s112_166, s112_168, s112_171, s112_172, s112_173, s112_174, a3, List.getElem?_cons_zero, List.getElem?_cons_succ, Option.bind_some, Option.toList_some, Option.toList_none, List.cons_append, List.nil_append, nI_add]
  show ∃ ds2 w2, ex_go X 112 0 [(0, .ref 32), (1, .int (nI p))] [] w = _ ∧ _
  unfold entT
  unfold eEnd at hl hE ⊢
  by_cases c1 : B.getD p 0 = 1
  · rw [if_pos c1] at hl hE ⊢
    rw [c1] at h0
    rw [if_pos c1]
    have nl := numN_le (wdN B (p + 1) 4)
    obtain ⟨w1, a1, S1⟩ := y_fiveL (X := X) (a := 105) (b := 110) (c := 116) (d := 32) (e := 0) (xs := txN 12 ++ [32]) S (by omega) (by decide) (by decide +kernel)
    have a1 : ex_call X 108 [.ref 32, .int 105, .int 110, .int 116, .int 32, .int 0] w = some (none, w1) := a1
    have rc1 := tx_rc S1
    have yw : ex_call X 113 [.ref 32, .int (nI (p + 1)), .int 4] w1 = some (some (.long (wdN B (p + 1) 4)), w1) := y_wide (X := X) (n := 4) (p := p + 1) (tx_B S1 Y) (by decide) (by decide) (by omega)
    obtain ⟨ds2, w2, a2, S2⟩ := y_number (X := X) (x := wdN B (p + 1) 4) S1 (by simp only [List.length_append, List.length_singleton]; omega)
    obtain ⟨w3, a3, S3⟩ := fin 5 _ ds2 w2 S2 (by simp only [List.length_append, List.length_singleton]; omega)
    have a3 : ex_go X 112 165 [(0, .ref 32), (1, .int (nI p)), (3, .int 5)] [] w2 = _ := a3
    refine ⟨ds2, w3, ?_, by simp only [List.append_assoc] at S3 ⊢; exact S3⟩
    simp (disch := first | assumption | decide) only [s112_0, s112_1, s112_4, s112_5, s112_6, s112_7, s112_8, s112_9, s112_10, s112_11, s112_14, s112_15, s112_17, s112_19, s112_21, s112_23, s112_24, s112_27, s112_28, s112_29, s112_30, s112_31, s112_32, s112_33, s112_36, s112_39, s112_40, s112_41, tx_g0 S, List.getElem?_cons_zero, List.getElem?_cons_succ, Option.bind_some, Option.toList_some, Option.toList_none, List.cons_append, List.nil_append, h0, if_pos, if_neg, a1, nI_1, yw, a2]
    exact a3
  · rw [if_neg c1] at hl hE ⊢
    rw [if_neg c1]
    have e1 : ¬ nI (B.getD p 0) = 1 := fun z => c1 ((nI_eq (b := 1) (by omega) (by decide)).mp z)
    by_cases c2 : B.getD p 0 = 2
    · rw [if_pos c2] at hl hE ⊢
      rw [if_pos c2]
      rw [c2] at h0
      have nl := nameT_len (B := B) (p := p + 2) (n := B.getD (p + 1) 0)
      obtain ⟨w1, a1, S1⟩ := y_fiveL (X := X) (a := 110) (b := 97) (c := 109) (d := 101) (e := 32) (xs := txN 13 ++ [32]) S (by omega) (by decide) (by decide +kernel)
      have a1 : ex_call X 108 [.ref 32, .int 110, .int 97, .int 109, .int 101, .int 32] w = some (none, w1) := a1
      have rc1 := tx_rc S1
      have h1 := y_blk (tx_B S1 Y) (p := p + 1) (by omega)
      obtain ⟨w2, a2, S2⟩ := y_name (X := X) (p := p + 2) (n := B.getD (p + 1) 0) S1 Y (by omega) (by simp only [List.length_append, List.length_singleton]; omega)
      have h12 := y_blk (tx_B S2 Y) (p := p + 1) (by omega)
      have ad : 2 + nI (B.getD (p + 1) 0) = nI (2 + B.getD (p + 1) 0) := nI_add 2 _
      obtain ⟨w3, a3, S3⟩ := fin (2 + B.getD (p + 1) 0) _ ds w2 S2 (by simp only [List.length_append, List.length_singleton]; omega)
      rw [← Nat.add_assoc] at a3
      refine ⟨ds, w3, ?_, by simp only [List.append_assoc] at S3 ⊢; exact S3⟩
      simp (disch := first | assumption | decide) only [s112_0, s112_1, s112_4, s112_5, s112_6, s112_7, s112_8, s112_9, s112_10, s112_11, s112_14, s112_15, s112_17, s112_19, s112_21, s112_23, s112_24, s112_27, s112_28, s112_29, s112_30, s112_31, s112_32, s112_33, s112_36, s112_39, s112_40, s112_41, s112_44, s112_45, s112_46, s112_49, s112_50, s112_52, s112_54, s112_56, s112_58, s112_60, s112_63, s112_64, s112_65, s112_66, s112_67, s112_68, s112_71, s112_72, s112_73, s112_74, s112_75, s112_78, s112_79, s112_80, s112_83, s112_84, s112_85, s112_86, s112_87, s112_88, s112_89, tx_g0 S, tx_g0 S1, tx_g0 S2, List.getElem?_cons_zero, List.getElem?_cons_succ, Option.bind_some, Option.toList_some, Option.toList_none, List.cons_append, List.nil_append, h0, if_pos, if_neg, a1, nI_1, n2, h1, a2, h12, ad]
      exact a3
    · rw [if_neg c2] at hl hE ⊢
      rw [if_neg c2]
      have e2 : ¬ nI (B.getD p 0) = 2 := fun z => c2 ((nI_eq (b := 2) (by omega) (by decide)).mp z)
      by_cases c3 : B.getD p 0 = 3
      · rw [if_pos c3] at hl hE ⊢
        rw [if_pos c3]
        rw [c3] at h0
        have nl1 := nB_le _ hb1
        have nl2 := nB_le _ hb2
        unfold nB at nl1 nl2 ⊢
        obtain ⟨w1, a1, S1⟩ := y_fiveL (X := X) (a := 112) (b := 97) (c := 105) (d := 114) (e := 0) (xs := txN 14) S (by omega) (by decide) (by decide +kernel)
        have a1 : ex_call X 108 [.ref 32, .int 112, .int 97, .int 105, .int 114, .int 0] w = some (none, w1) := a1
        have rc1 := tx_rc S1
        have h1 := y_blk (tx_B S1 Y) (p := p + 1) (by omega)
        have h2 := y_blk (tx_B S1 Y) (p := p + 2) (by omega)
        obtain ⟨ds2, w2, a2, S2⟩ := y_pair (X := X) (a := B.getD (p + 1) 0) (b := B.getD (p + 2) 0) S1 hb1 hb2 (by simp only [List.length_append, List.length_singleton]; omega)
        obtain ⟨w3, a3, S3⟩ := fin 3 _ ds2 w2 S2 (by simp only [List.length_append, List.length_singleton]; omega)
        have a3 : ex_go X 112 165 [(0, .ref 32), (1, .int (nI p)), (3, .int 3)] [] w2 = _ := a3
        refine ⟨ds2, w3, ?_, by simp only [List.append_assoc] at S3 ⊢; exact S3⟩
        simp (disch := first | assumption | decide) only [s112_0, s112_1, s112_4, s112_5, s112_6, s112_7, s112_8, s112_9, s112_10, s112_11, s112_14, s112_15, s112_17, s112_19, s112_21, s112_23, s112_24, s112_27, s112_28, s112_29, s112_30, s112_31, s112_32, s112_33, s112_36, s112_39, s112_40, s112_41, s112_44, s112_45, s112_46, s112_49, s112_50, s112_52, s112_54, s112_56, s112_58, s112_60, s112_63, s112_64, s112_65, s112_66, s112_67, s112_68, s112_71, s112_72, s112_73, s112_74, s112_75, s112_78, s112_79, s112_80, s112_83, s112_84, s112_85, s112_86, s112_87, s112_88, s112_89, s112_92, s112_93, s112_94, s112_97, s112_98, s112_100, s112_102, s112_104, s112_106, s112_107, s112_110, s112_111, s112_112, s112_115, s112_116, s112_117, s112_118, s112_119, s112_120, s112_123, s112_124, s112_125, s112_126, s112_127, s112_130, s112_131, s112_132, tx_g0 S, tx_g0 S1, List.getElem?_cons_zero, List.getElem?_cons_succ, Option.bind_some, Option.toList_some, Option.toList_none, List.cons_append, List.nil_append, h0, if_pos, if_neg, a1, nI_1, n2, h1, h2, a2]
        exact a3
      · rw [if_neg c3] at hl hE ⊢
        rw [if_neg c3]
        have e3 : ¬ nI (B.getD p 0) = 3 := fun z => c3 ((nI_eq (b := 3) (by omega) (by decide)).mp z)
        have nl := numN_le (wdN B (p + 1) 8)
        obtain ⟨w1, a1, S1⟩ := y_fiveL (X := X) (a := 108) (b := 111) (c := 110) (d := 103) (e := 32) (xs := txN 15 ++ [32]) S (by omega) (by decide) (by decide +kernel)
        have a1 : ex_call X 108 [.ref 32, .int 108, .int 111, .int 110, .int 103, .int 32] w = some (none, w1) := a1
        have rc1 := tx_rc S1
        have yw : ex_call X 113 [.ref 32, .int (nI (p + 1)), .int 8] w1 = some (some (.long (wdN B (p + 1) 8)), w1) := y_wide (X := X) (n := 8) (p := p + 1) (tx_B S1 Y) (by decide) (by decide) (by omega)
        obtain ⟨ds2, w2, a2, S2⟩ := y_number (X := X) (x := wdN B (p + 1) 8) S1 (by simp only [List.length_append, List.length_singleton]; omega)
        obtain ⟨w3, a3, S3⟩ := fin 9 _ ds2 w2 S2 (by simp only [List.length_append, List.length_singleton]; omega)
        have a3 : ex_go X 112 165 [(0, .ref 32), (1, .int (nI p)), (3, .int 9)] [] w2 = _ := a3
        refine ⟨ds2, w3, ?_, by simp only [List.append_assoc] at S3 ⊢; exact S3⟩
        simp (disch := first | assumption | decide) only [s112_0, s112_1, s112_4, s112_5, s112_6, s112_7, s112_8, s112_9, s112_10, s112_11, s112_14, s112_15, s112_17, s112_19, s112_21, s112_23, s112_24, s112_27, s112_28, s112_29, s112_30, s112_31, s112_32, s112_33, s112_36, s112_39, s112_40, s112_41, s112_44, s112_45, s112_46, s112_49, s112_50, s112_52, s112_54, s112_56, s112_58, s112_60, s112_63, s112_64, s112_65, s112_66, s112_67, s112_68, s112_71, s112_72, s112_73, s112_74, s112_75, s112_78, s112_79, s112_80, s112_83, s112_84, s112_85, s112_86, s112_87, s112_88, s112_89, s112_92, s112_93, s112_94, s112_97, s112_98, s112_100, s112_102, s112_104, s112_106, s112_107, s112_110, s112_111, s112_112, s112_115, s112_116, s112_117, s112_118, s112_119, s112_120, s112_123, s112_124, s112_125, s112_126, s112_127, s112_130, s112_131, s112_132, s112_135, s112_136, s112_138, s112_140, s112_142, s112_144, s112_146, s112_149, s112_150, s112_151, s112_152, s112_153, s112_154, s112_156, s112_159, s112_162, s112_164, tx_g0 S, List.getElem?_cons_zero, List.getElem?_cons_succ, Option.bind_some, Option.toList_some, Option.toList_none, List.cons_append, List.nil_append, h0, if_pos e1, if_pos e2, if_pos e3, a1, nI_1, yw, a2]
        exact a3
theorem y_tellOne {part : Nat} (hk : part ≤ 3) (S : isTx w0 w m v t ds bg ln) (Y : isBm w0 bs B) (hE : iEnd B part p ≤ B.length) (h120 : B.length ≤ 120) (hl : t.length + 7 * (iEnd B part p - p) ≤ 808) : ∃ ds2 bg2 ln2 w2, ex_call X 111 [.ref 32, .int (nI part), .int (nI p)] w = some (some (.int (nI (iEnd B part p))), w2) ∧ isTx w0 w2 m v (t ++ itT B part p ++ [10]) ds2 bg2 ln2 := by
  obtain ⟨k1, k2, k3, k4, k5, k6⟩ := tx_lens
  have hb0 := Y.2.2.2 p
  have hb1 := Y.2.2.2 (p + 1)
  have rc := tx_rc S
  have n2 : nI p + 2 = nI (p + 2) := nI_add p 2
  have il := it_len Y.2.2.2 hk hE h120
  have cs : part = 0 ∨ part = 1 ∨ part = 2 ∨ part = 3 := by omega
  show ∃ ds2 bg2 ln2 w2, ex_go X 111 0 [(0, .ref 32), (1, .int (nI part)), (2, .int (nI p))] [] w = _ ∧ _
  rcases cs with c | c | c | c <;> subst c
  · obtain ⟨ds2, w2, a2, S2⟩ := y_tellEntry (X := X) (p := p) S Y hE h120 hl
    refine ⟨ds2, bg, ln, w2, ?_, S2⟩
    simp (disch := first | assumption | decide) only [s111_0, s111_1, s111_4, s111_5, s111_6, s111_9, s111_10, s111_11, s111_12, s111_15, s111_16, s111_17, s111_20, s111_21, s111_22, s111_23, s111_26, s111_27, s111_29, s111_31, s111_33, s111_35, s111_37, s111_40, s111_41, s111_42, s111_45, s111_46, s111_47, s111_48, s111_51, s111_52, s111_53, s111_54, s111_55, s111_58, s111_59, s111_61, s111_64, s111_65, s111_66, s111_67, s111_68, s111_69, s111_71, s111_73, s111_75, s111_77, s111_79, s111_82, s111_83, s111_85, s111_87, s111_88, s111_89, s111_90, s111_93, s111_94, s111_95, s111_98, s111_99, s111_100, s111_101, s111_104, s111_105, s111_107, s111_110, s111_111, s111_112, s111_113, s111_114, s111_115, s111_118, s111_119, s111_120, s111_121, s111_122, s111_125, s111_126, s111_128, s111_131, s111_132, s111_133, s111_134, s111_135, s111_138, s111_139, s111_140, s111_141, s111_142, s111_143, if_pos, if_neg, a2, List.getElem?_cons_zero, List.getElem?_cons_succ, Option.bind_some, Option.toList_some, Option.toList_none, List.cons_append, List.nil_append]
    rfl
  · have hE : p + 2 ≤ B.length := hE
    have hl : t.length + 7 * (p + 2 - p) ≤ 808 := hl
    have nl1 := nB_le _ hb0
    have nl2 := nB_le _ hb1
    show ∃ ds2 bg2 ln2 w2, ex_go X 111 0 [(0, .ref 32), (1, .int (nI 1)), (2, .int (nI p))] [] w = some (some (.int (nI (p + 2))), w2) ∧ isTx w0 w2 m v (t ++ fldT B p ++ [10]) ds2 bg2 ln2
    unfold fldT
    unfold nB at nl1 nl2 ⊢
    obtain ⟨w1, a1, S1⟩ := y_fiveL (X := X) (a := 102) (b := 105) (c := 101) (d := 108) (e := 100) (xs := txN 16) S (by omega) (by decide) (by decide +kernel)
    have a1 : ex_call X 108 [.ref 32, .int 102, .int 105, .int 101, .int 108, .int 100] w = some (none, w1) := a1
    have rc1 := tx_rc S1
    have h0 := y_blk (tx_B S1 Y) (p := p) (by omega)
    have h1 := y_blk (tx_B S1 Y) (p := p + 1) (by omega)
    obtain ⟨ds2, w2, a2, S2⟩ := y_pair (X := X) (a := B.getD p 0) (b := B.getD (p + 1) 0) S1 hb0 hb1 (by simp only [List.length_append, List.length_singleton]; omega)
    have rc2 := tx_rc S2
    obtain ⟨w3, a3, S3⟩ := y_say (X := X) (c := 10) S2 (by simp only [List.length_append, List.length_singleton]; omega)
    have a3 : ex_call X 109 [.ref 32, .int 10] w2 = some (none, w3) := a3
    refine ⟨ds2, bg, ln, w3, ?_, by simp only [List.append_assoc] at S3 ⊢; exact S3⟩
    simp (disch := first | assumption | decide) only [s111_0, s111_1, s111_4, s111_5, s111_6, s111_9, s111_10, s111_11, s111_12, s111_15, s111_16, s111_17, s111_20, s111_21, s111_22, s111_23, s111_26, s111_27, s111_29, s111_31, s111_33, s111_35, s111_37, s111_40, s111_41, s111_42, s111_45, s111_46, s111_47, s111_48, s111_51, s111_52, s111_53, s111_54, s111_55, s111_58, s111_59, s111_61, s111_64, s111_65, s111_66, s111_67, s111_68, s111_69, s111_71, s111_73, s111_75, s111_77, s111_79, s111_82, s111_83, s111_85, s111_87, s111_88, s111_89, s111_90, s111_93, s111_94, s111_95, s111_98, s111_99, s111_100, s111_101, s111_104, s111_105, s111_107, s111_110, s111_111, s111_112, s111_113, s111_114, s111_115, s111_118, s111_119, s111_120, s111_121, s111_122, s111_125, s111_126, s111_128, s111_131, s111_132, s111_133, s111_134, s111_135, s111_138, s111_139, s111_140, s111_141, s111_142, s111_143, if_pos, if_neg, a1, List.getElem?_cons_zero, List.getElem?_cons_succ, Option.bind_some, Option.toList_some, Option.toList_none, List.cons_append, List.nil_append, tx_g0 S1, h0, nI_1, h1, a2, a3, n2]
  · obtain ⟨ds2, bg2, ln2, w2, a2, S2⟩ := y_tellCode (X := X) (p := p) S Y hE h120 (by
      have e : itT B 2 p = codT0 B p := rfl
      rw [e] at il
      omega)
    refine ⟨ds2, bg2, ln2, w2, ?_, S2⟩
    simp (disch := first | assumption | decide) only [s111_0, s111_1, s111_4, s111_5, s111_6, s111_9, s111_10, s111_11, s111_12, s111_15, s111_16, s111_17, s111_20, s111_21, s111_22, s111_23, s111_26, s111_27, s111_29, s111_31, s111_33, s111_35, s111_37, s111_40, s111_41, s111_42, s111_45, s111_46, s111_47, s111_48, s111_51, s111_52, s111_53, s111_54, s111_55, s111_58, s111_59, s111_61, s111_64, s111_65, s111_66, s111_67, s111_68, s111_69, s111_71, s111_73, s111_75, s111_77, s111_79, s111_82, s111_83, s111_85, s111_87, s111_88, s111_89, s111_90, s111_93, s111_94, s111_95, s111_98, s111_99, s111_100, s111_101, s111_104, s111_105, s111_107, s111_110, s111_111, s111_112, s111_113, s111_114, s111_115, s111_118, s111_119, s111_120, s111_121, s111_122, s111_125, s111_126, s111_128, s111_131, s111_132, s111_133, s111_134, s111_135, s111_138, s111_139, s111_140, s111_141, s111_142, s111_143, if_pos, if_neg, a2, List.getElem?_cons_zero, List.getElem?_cons_succ, Option.bind_some, Option.toList_some, Option.toList_none, List.cons_append, List.nil_append]
    rfl
  · have hE : p + 2 + B.getD (p + 1) 0 ≤ B.length := hE
    have hl : t.length + 7 * (p + 2 + B.getD (p + 1) 0 - p) ≤ 808 := hl
    have nl1 := nB_le _ hb0
    have bl := bytesT_len (B := B) (p := p + 2) (n := B.getD (p + 1) 0)
    show ∃ ds2 bg2 ln2 w2, ex_go X 111 0 [(0, .ref 32), (1, .int (nI 3)), (2, .int (nI p))] [] w = some (some (.int (nI (p + 2 + B.getD (p + 1) 0))), w2) ∧ isTx w0 w2 m v (t ++ attT B p ++ [10]) ds2 bg2 ln2
    unfold attT
    unfold nB at nl1 ⊢
    obtain ⟨w1, a1, S1⟩ := y_fiveL (X := X) (a := 97) (b := 116) (c := 116) (d := 97) (e := 99) (xs := [97, 116, 116, 97, 99]) S (by omega) (by decide) (by decide +kernel)
    have a1 : ex_call X 108 [.ref 32, .int 97, .int 116, .int 116, .int 97, .int 99] w = some (none, w1) := a1
    have rc1 := tx_rc S1
    obtain ⟨w2, a2, S2⟩ := y_fiveL (X := X) (a := 104) (b := 32) (c := 0) (d := 0) (e := 0) (xs := [104, 32]) S1 (by simp only [List.length_append, List.length_cons, List.length_nil]; omega) (by decide) (by decide +kernel)
    have a2 : ex_call X 108 [.ref 32, .int 104, .int 32, .int 0, .int 0, .int 0] w1 = some (none, w2) := a2
    have S2 : isTx w0 w2 m v (t ++ (txN 17 ++ [32])) ds bg ln := by
      have e : txN 17 ++ [32] = [97, 116, 116, 97, 99] ++ [104, 32] := by decide +kernel
      rw [e, ← List.append_assoc]
      exact S2
    have rc2 := tx_rc S2
    have h0 := y_blk (tx_B S2 Y) (p := p) (by omega)
    obtain ⟨ds3, w3, a3, S3⟩ := y_number (X := X) (x := (nI (B.getD p 0)).toInt64) S2 (by simp only [List.length_append, List.length_singleton]; omega)
    have rc3 := tx_rc S3
    obtain ⟨w4, a4, S4⟩ := y_say (X := X) (c := 32) S3 (by simp only [List.length_append, List.length_singleton]; omega)
    have a4 : ex_call X 109 [.ref 32, .int 32] w3 = some (none, w4) := a4
    have rc4 := tx_rc S4
    have h1 := y_blk (tx_B S4 Y) (p := p + 1) (by omega)
    obtain ⟨w5, a5, S5⟩ := y_sayBytes (X := X) (p := p + 2) (n := B.getD (p + 1) 0) S4 Y (by omega) (by simp only [List.length_append, List.length_singleton]; omega)
    have rc5 := tx_rc S5
    obtain ⟨w6, a6, S6⟩ := y_say (X := X) (c := 10) S5 (by simp only [List.length_append, List.length_singleton]; omega)
    have a6 : ex_call X 109 [.ref 32, .int 10] w5 = some (none, w6) := a6
    have h16 := y_blk (tx_B S6 Y) (p := p + 1) (by omega)
    refine ⟨ds3, bg, ln, w6, ?_, by simp only [List.append_assoc] at S6 ⊢; exact S6⟩
    simp (disch := first | assumption | decide) only [s111_0, s111_1, s111_4, s111_5, s111_6, s111_9, s111_10, s111_11, s111_12, s111_15, s111_16, s111_17, s111_20, s111_21, s111_22, s111_23, s111_26, s111_27, s111_29, s111_31, s111_33, s111_35, s111_37, s111_40, s111_41, s111_42, s111_45, s111_46, s111_47, s111_48, s111_51, s111_52, s111_53, s111_54, s111_55, s111_58, s111_59, s111_61, s111_64, s111_65, s111_66, s111_67, s111_68, s111_69, s111_71, s111_73, s111_75, s111_77, s111_79, s111_82, s111_83, s111_85, s111_87, s111_88, s111_89, s111_90, s111_93, s111_94, s111_95, s111_98, s111_99, s111_100, s111_101, s111_104, s111_105, s111_107, s111_110, s111_111, s111_112, s111_113, s111_114, s111_115, s111_118, s111_119, s111_120, s111_121, s111_122, s111_125, s111_126, s111_128, s111_131, s111_132, s111_133, s111_134, s111_135, s111_138, s111_139, s111_140, s111_141, s111_142, s111_143, if_pos, if_neg, a1, List.getElem?_cons_zero, List.getElem?_cons_succ, Option.bind_some, Option.toList_some, Option.toList_none, List.cons_append, List.nil_append, a2, tx_g0 S2, h0, a3, a4, n2, tx_g0 S4, nI_1, h1, a5, a6, tx_g0 S6, h16, nI_add]
end TELL4
/-! the whole text -/
noncomputable def itsT (B : List Nat) (part : Nat) : Nat → Nat → List Nat
  | 0, _ => []
  | k + 1, p => itT B part p ++ [10] ++ itsT B part k (iEnd B part p)
noncomputable def prtT (B : List Nat) : Nat → Nat → List Nat
  | 0, _ => []
  | r + 1, k => itsT B k (B.getD (cP B k) 0) (cP B k + 1) ++ prtT B r (k + 1)
noncomputable def telT (B : List Nat) : List Nat := txN 11 ++ [32] ++ nB (B.getD 1 0) ++ [10] ++ prtT B 4 0
theorem itN_mono {B : List Nat} {part p : Nat} : ∀ (j i : Nat), i ≤ j → itN B part p i ≤ itN B part p j := by
  intro j
  induction j with
  | zero => intro i h; rw [show i = 0 by omega]; exact Nat.le_refl _
  | succ j ih =>
    intro i h
    by_cases e : i = j + 1
    · rw [e]; exact Nat.le_refl _
    · have h1 := ih i (by omega)
      have h2 : itN B part p j ≤ itN B part p (j + 1) := by
        rw [itN_succ]
        exact itN_ge (part := part) 1 (itN B part p j)
      omega
theorem tx11 : (txN 11).length = 5 := by decide +kernel
