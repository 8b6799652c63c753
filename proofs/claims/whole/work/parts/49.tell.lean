/-! the other object's instructions -/
section TELL3
variable {X : Option (List Int32)} {w0 w : ex_W} {m : Nat → Int32} {v : Int64} {t : List Nat} {ds bg ln bs : List Int32} {B : List Nat} {f n p : Nat} {L : List Nat}
theorem y_tellDistance {q : Nat} (S : isTx w0 w m v t ds bg ln) (Y : isBm w0 bs B) (hL : okL B f n L) (hn : n ≤ 120) (hf : f + n ≤ B.length) (hb : bgS f n L bg) (hp : p ∈ L) (hq : q < distN B p) (hln : lnF n (Tb B f n L) n ln) (hl : t.length + 1 + (dT B f (Tb B f n L) p q).length ≤ 808) : ∃ ds2 w2, ex_call X 127 [.ref 32, .int (nI f), .int (nI n), .int (nI p), .int (nI (p + headN (B.getD p 0) + 2 * q))] w = some (none, w2) ∧ isTx w0 w2 m v (t ++ 32 :: dT B f (Tb B f n L) p q) ds2 bg ln := by
  have l := hL _ hp
  have yd := y_distance (X := X) (c := p + headN (B.getD p 0) + 2 * q) (tx_B S Y) (by omega)
  have rc := tx_rc S
  obtain ⟨w1, a1, S1⟩ := y_say (X := X) (c := 32) S (by omega)
  have a1 : ex_call X 109 [.ref 32, .int 32] w = some (none, w1) := a1
  have rc1 := tx_rc S1
  show ∃ ds2 w2, ex_go X 127 0 [(0, .ref 32), (1, .int (nI f)), (2, .int (nI n)), (3, .int (nI p)), (4, .int (nI (p + headN (B.getD p 0) + 2 * q)))] [] w = _ ∧ _
  have ap : ∀ (a : Nat) (xs : List Nat), t ++ [32] ++ [a] ++ xs = t ++ 32 :: (a :: xs) := by
    intro a xs
    simp only [List.append_assoc, List.cons_append, List.nil_append]
  rcases y_target (X := X) (q := q) S Y hL hn hf hb hp hq with ⟨z, hz, hz2, c, ca⟩ | ⟨c, ca⟩
  · have Tz : Tb B f n L z = true := Tb_iff.mpr ⟨hz, hz2, Or.inl ⟨p, hp, l.2.1, q, hq, c⟩⟩
    obtain ⟨y1, y2⟩ := tgI_z c (by omega)
    have ed : dT B f (Tb B f n L) p q = 64 :: nB (cntB (Tb B f n L) z) := by
      rw [dT, if_pos ⟨y2, by rw [y1]; exact Tz⟩, y1]
    rw [ed, List.length_cons] at hl
    rw [ed]
    unfold nB at hl ⊢
    obtain ⟨w2, a2, S2⟩ := y_say (X := X) (c := 64) S1 (by rw [List.length_append, List.length_singleton]; omega)
    have a2 : ex_call X 109 [.ref 32, .int 64] w1 = some (none, w2) := a2
    have rc2 := tx_rc S2
    obtain ⟨ds3, w3, a3, S3⟩ := y_number (X := X) (x := (nI (cntB (Tb B f n L) z)).toInt64) S2 (by simp only [List.length_append, List.length_singleton]; omega)
    have ll := tx_ll (i := z) S2 (by omega)
    rw [(hln z hz).1 Tz, if_pos hz] at ll
    have e0 : ¬ nI z < 0 := nI_pos (by omega)
    refine ⟨ds3, w3, ?_, by rw [ap] at S3; exact S3⟩
    simp (disch := first | assumption | decide) only [s127_0, s127_1, s127_2, s127_3, s127_4, s127_6, s127_9, s127_11, s127_12, s127_14, s127_17, s127_19, s127_20, s127_22, s127_25, s127_27, s127_30, s127_31, s127_33, s127_36, s127_37, s127_38, s127_41, s127_43, s127_44, s127_45, s127_46, s127_47, s127_50, s127_53, s127_55, s127_58, s127_59, s127_61, s127_64, s127_65, s127_67, s127_68, s127_71, ca, yd, List.getElem?_cons_zero, List.getElem?_cons_succ, Option.bind_some, Option.toList_some, Option.toList_none, List.cons_append, List.nil_append, a1, a2, a3, if_neg e0, tx_g12 S2, ll, nI_pred]
  · have ed : dT B f (Tb B f n L) p q = (if d32 B (p + headN (B.getD p 0) + 2 * q) < 0 then [] else [43]) ++ numN (d32 B (p + headN (B.getD p 0) + 2 * q)).toInt64 := by
      rw [dT, if_neg]
      rintro ⟨x1, x2⟩
      have := Tb_iff.mp x2
      exact c _ this.1 this.2.1 (tgI_back x1).1
    rw [ed] at hl ⊢
    have e0 : (-1 : Int32) < 0 := by decide
    by_cases c2 : d32 B (p + headN (B.getD p 0) + 2 * q) < 0
    · rw [if_pos c2, List.nil_append] at hl ⊢
      obtain ⟨ds3, w3, a3, S3⟩ := y_number (X := X) (x := (d32 B (p + headN (B.getD p 0) + 2 * q)).toInt64) S1 (by simp only [List.length_append, List.length_singleton]; omega)
      refine ⟨ds3, w3, ?_, by simp only [List.append_assoc, List.cons_append, List.nil_append] at S3 ⊢; exact S3⟩
      simp (disch := first | assumption | decide) only [s127_0, s127_1, s127_2, s127_3, s127_4, s127_6, s127_9, s127_11, s127_12, s127_14, s127_17, s127_19, s127_20, s127_22, s127_25, s127_27, s127_30, s127_31, s127_33, s127_36, s127_37, s127_38, s127_41, s127_43, s127_44, s127_45, s127_46, s127_47, s127_50, s127_53, s127_55, s127_58, s127_59, s127_61, s127_64, s127_65, s127_67, s127_68, s127_71, ca, yd, List.getElem?_cons_zero, List.getElem?_cons_succ, Option.bind_some, Option.toList_some, Option.toList_none, List.cons_append, List.nil_append, a1, a3, if_pos e0, if_pos c2]
    · rw [if_neg c2] at hl ⊢
      rw [List.length_append, List.length_singleton] at hl
      obtain ⟨w2, a2, S2⟩ := y_say (X := X) (c := 43) S1 (by rw [List.length_append, List.length_singleton]; omega)
      have a2 : ex_call X 109 [.ref 32, .int 43] w1 = some (none, w2) := a2
      have rc2 := tx_rc S2
      obtain ⟨ds3, w3, a3, S3⟩ := y_number (X := X) (x := (d32 B (p + headN (B.getD p 0) + 2 * q)).toInt64) S2 (by simp only [List.length_append, List.length_singleton]; omega)
      refine ⟨ds3, w3, ?_, by simp only [List.append_assoc, List.cons_append, List.nil_append] at S3 ⊢; exact S3⟩
      simp (disch := first | assumption | decide) only [s127_0, s127_1, s127_2, s127_3, s127_4, s127_6, s127_9, s127_11, s127_12, s127_14, s127_17, s127_19, s127_20, s127_22, s127_25, s127_27, s127_30, s127_31, s127_33, s127_36, s127_37, s127_38, s127_41, s127_43, s127_44, s127_45, s127_46, s127_47, s127_50, s127_53, s127_55, s127_58, s127_59, s127_61, s127_64, s127_65, s127_67, s127_68, s127_71, ca, yd, List.getElem?_cons_zero, List.getElem?_cons_succ, Option.bind_some, Option.toList_some, Option.toList_none, List.cons_append, List.nil_append, a1, a2, a3, if_pos e0, if_neg c2]
theorem y_sayWord {x : Nat} (hx : x ≤ 10) (S : isTx w0 w m v t ds bg ln) (hl : t.length + 5 ≤ 1000) : ∃ w2, ex_call X 126 [.ref 32, .int (nI x)] w = some (none, w2) ∧ isTx w0 w2 m v (t ++ opW x) ds bg ln := by
  have rc := tx_rc S
  have fv : ∀ (a b c d : Nat), a < 2 ^ 20 → b < 2 ^ 20 → c < 2 ^ 20 → d < 2 ^ 20 → ∃ w2, ex_call X 108 [.ref 32, .int (nI a), .int (nI b), .int (nI c), .int (nI d), .int (nI 0)] w = some (none, w2) ∧ isTx w0 w2 m v (t ++ (opt a ++ opt b ++ opt c ++ opt d ++ opt 0)) ds bg ln := by
    intro a b c d ha hb hc hd
    obtain ⟨w2, a1, S1⟩ := y_five (X := X) (a := a) (b := b) (c := c) (d := d) (e := 0) S hl ha hb hc hd (by decide)
    refine ⟨w2, a1, ?_⟩
    simp only [List.append_assoc] at S1 ⊢
    exact S1
  show ∃ w2, ex_go X 126 0 [(0, .ref 32), (1, .int (nI x))] [] w = _ ∧ _
  have cs : x = 0 ∨ x = 1 ∨ x = 2 ∨ x = 3 ∨ x = 4 ∨ x = 5 ∨ x = 6 ∨ x = 7 ∨ x = 8 ∨ x = 9 ∨ x = 10 := by omega
  have wd : ∀ (a b c d : Nat) (y : Nat), opW y = opt a ++ opt b ++ opt c ++ opt d ++ opt 0 → a < 2 ^ 20 → b < 2 ^ 20 → c < 2 ^ 20 → d < 2 ^ 20 → (∀ w2, ex_call X 108 [.ref 32, .int (nI a), .int (nI b), .int (nI c), .int (nI d), .int (nI 0)] w = some (none, w2) → ex_go X 126 0 [(0, .ref 32), (1, .int (nI y))] [] w = some (none, w2)) → ∃ w2, ex_go X 126 0 [(0, .ref 32), (1, .int (nI y))] [] w = some (none, w2) ∧ isTx w0 w2 m v (t ++ opW y) ds bg ln := by
    intro a b c d y e ha hb hc hd h
    obtain ⟨w2, a1, S1⟩ := fv a b c d ha hb hc hd
    exact ⟨w2, h w2 a1, by rw [e]; exact S1⟩
  rcases cs with c | c | c | c | c | c | c | c | c | c | c <;> subst c
  · refine wd 110 111 112 0 0 (by decide +kernel) (by decide) (by decide) (by decide) (by decide) (fun w2 h => ?_)
    have h : ex_call X 108 [.ref 32, .int 110, .int 111, .int 112, .int 0, .int 0] w = some (none, w2) := h
    simp (disch := first | assumption | decide) only [s126_0, s126_1, s126_4, s126_5, s126_7, s126_9, s126_11, s126_12, s126_13, s126_16, s126_17, s126_18, s126_21, s126_22, s126_24, s126_26, s126_28, s126_30, s126_31, s126_34, s126_35, s126_36, s126_39, s126_40, s126_42, s126_44, s126_46, s126_48, s126_49, s126_52, s126_53, s126_54, s126_57, s126_58, s126_60, s126_62, s126_64, s126_65, s126_66, s126_69, s126_70, s126_71, s126_74, s126_75, s126_77, s126_79, s126_81, s126_82, s126_83, s126_86, s126_87, s126_88, s126_91, s126_92, s126_94, s126_96, s126_98, s126_99, s126_100, s126_103, s126_104, s126_106, s126_109, s126_110, s126_112, s126_114, s126_116, s126_118, s126_119, s126_122, s126_123, s126_125, s126_128, s126_129, s126_131, s126_133, s126_135, s126_137, s126_138, s126_141, s126_142, s126_144, s126_147, s126_148, s126_150, s126_152, s126_154, s126_156, s126_157, s126_160, s126_161, s126_163, s126_166, s126_167, s126_169, s126_171, s126_173, s126_174, s126_175, s126_178, s126_179, s126_181, s126_184, s126_185, s126_187, s126_189, s126_191, s126_193, s126_194, s126_197, if_pos, if_neg, h, List.getElem?_cons_zero, List.getElem?_cons_succ, Option.bind_some, Option.toList_some, Option.toList_none, List.cons_append, List.nil_append]
  · refine wd 112 117 115 104 1 (by decide +kernel) (by decide) (by decide) (by decide) (by decide) (fun w2 h => ?_)
    have h : ex_call X 108 [.ref 32, .int 112, .int 117, .int 115, .int 104, .int 0] w = some (none, w2) := h
    simp (disch := first | assumption | decide) only [s126_0, s126_1, s126_4, s126_5, s126_7, s126_9, s126_11, s126_12, s126_13, s126_16, s126_17, s126_18, s126_21, s126_22, s126_24, s126_26, s126_28, s126_30, s126_31, s126_34, s126_35, s126_36, s126_39, s126_40, s126_42, s126_44, s126_46, s126_48, s126_49, s126_52, s126_53, s126_54, s126_57, s126_58, s126_60, s126_62, s126_64, s126_65, s126_66, s126_69, s126_70, s126_71, s126_74, s126_75, s126_77, s126_79, s126_81, s126_82, s126_83, s126_86, s126_87, s126_88, s126_91, s126_92, s126_94, s126_96, s126_98, s126_99, s126_100, s126_103, s126_104, s126_106, s126_109, s126_110, s126_112, s126_114, s126_116, s126_118, s126_119, s126_122, s126_123, s126_125, s126_128, s126_129, s126_131, s126_133, s126_135, s126_137, s126_138, s126_141, s126_142, s126_144, s126_147, s126_148, s126_150, s126_152, s126_154, s126_156, s126_157, s126_160, s126_161, s126_163, s126_166, s126_167, s126_169, s126_171, s126_173, s126_174, s126_175, s126_178, s126_179, s126_181, s126_184, s126_185, s126_187, s126_189, s126_191, s126_193, s126_194, s126_197, if_pos, if_neg, h, List.getElem?_cons_zero, List.getElem?_cons_succ, Option.bind_some, Option.toList_some, Option.toList_none, List.cons_append, List.nil_append]
  · refine wd 108 111 97 100 2 (by decide +kernel) (by decide) (by decide) (by decide) (by decide) (fun w2 h => ?_)
    have h : ex_call X 108 [.ref 32, .int 108, .int 111, .int 97, .int 100, .int 0] w = some (none, w2) := h
    simp (disch := first | assumption | decide) only [s126_0, s126_1, s126_4, s126_5, s126_7, s126_9, s126_11, s126_12, s126_13, s126_16, s126_17, s126_18, s126_21, s126_22, s126_24, s126_26, s126_28, s126_30, s126_31, s126_34, s126_35, s126_36, s126_39, s126_40, s126_42, s126_44, s126_46, s126_48, s126_49, s126_52, s126_53, s126_54, s126_57, s126_58, s126_60, s126_62, s126_64, s126_65, s126_66, s126_69, s126_70, s126_71, s126_74, s126_75, s126_77, s126_79, s126_81, s126_82, s126_83, s126_86, s126_87, s126_88, s126_91, s126_92, s126_94, s126_96, s126_98, s126_99, s126_100, s126_103, s126_104, s126_106, s126_109, s126_110, s126_112, s126_114, s126_116, s126_118, s126_119, s126_122, s126_123, s126_125, s126_128, s126_129, s126_131, s126_133, s126_135, s126_137, s126_138, s126_141, s126_142, s126_144, s126_147, s126_148, s126_150, s126_152, s126_154, s126_156, s126_157, s126_160, s126_161, s126_163, s126_166, s126_167, s126_169, s126_171, s126_173, s126_174, s126_175, s126_178, s126_179, s126_181, s126_184, s126_185, s126_187, s126_189, s126_191, s126_193, s126_194, s126_197, if_pos, if_neg, h, List.getElem?_cons_zero, List.getElem?_cons_succ, Option.bind_some, Option.toList_some, Option.toList_none, List.cons_append, List.nil_append]
  · refine wd 97 100 100 0 3 (by decide +kernel) (by decide) (by decide) (by decide) (by decide) (fun w2 h => ?_)
    have h : ex_call X 108 [.ref 32, .int 97, .int 100, .int 100, .int 0, .int 0] w = some (none, w2) := h
    simp (disch := first | assumption | decide) only [s126_0, s126_1, s126_4, s126_5, s126_7, s126_9, s126_11, s126_12, s126_13, s126_16, s126_17, s126_18, s126_21, s126_22, s126_24, s126_26, s126_28, s126_30, s126_31, s126_34, s126_35, s126_36, s126_39, s126_40, s126_42, s126_44, s126_46, s126_48, s126_49, s126_52, s126_53, s126_54, s126_57, s126_58, s126_60, s126_62, s126_64, s126_65, s126_66, s126_69, s126_70, s126_71, s126_74, s126_75, s126_77, s126_79, s126_81, s126_82, s126_83, s126_86, s126_87, s126_88, s126_91, s126_92, s126_94, s126_96, s126_98, s126_99, s126_100, s126_103, s126_104, s126_106, s126_109, s126_110, s126_112, s126_114, s126_116, s126_118, s126_119, s126_122, s126_123, s126_125, s126_128, s126_129, s126_131, s126_133, s126_135, s126_137, s126_138, s126_141, s126_142, s126_144, s126_147, s126_148, s126_150, s126_152, s126_154, s126_156, s126_157, s126_160, s126_161, s126_163, s126_166, s126_167, s126_169, s126_171, s126_173, s126_174, s126_175, s126_178, s126_179, s126_181, s126_184, s126_185, s126_187, s126_189, s126_191, s126_193, s126_194, s126_197, if_pos, if_neg, h, List.getElem?_cons_zero, List.getElem?_cons_succ, Option.bind_some, Option.toList_some, Option.toList_none, List.cons_append, List.nil_append]
  · refine wd 115 117 98 0 4 (by decide +kernel) (by decide) (by decide) (by decide) (by decide) (fun w2 h => ?_)
    have h : ex_call X 108 [.ref 32, .int 115, .int 117, .int 98, .int 0, .int 0] w = some (none, w2) := h
    simp (disch := first | assumption | decide) only [s126_0, s126_1, s126_4, s126_5, s126_7, s126_9, s126_11, s126_12, s126_13, s126_16, s126_17, s126_18, s126_21, s126_22, s126_24, s126_26, s126_28, s126_30, s126_31, s126_34, s126_35, s126_36, s126_39, s126_40, s126_42, s126_44, s126_46, s126_48, s126_49, s126_52, s126_53, s126_54, s126_57, s126_58, s126_60, s126_62, s126_64, s126_65, s126_66, s126_69, s126_70, s126_71, s126_74, s126_75, s126_77, s126_79, s126_81, s126_82, s126_83, s126_86, s126_87, s126_88, s126_91, s126_92, s126_94, s126_96, s126_98, s126_99, s126_100, s126_103, s126_104, s126_106, s126_109, s126_110, s126_112, s126_114, s126_116, s126_118, s126_119, s126_122, s126_123, s126_125, s126_128, s126_129, s126_131, s126_133, s126_135, s126_137, s126_138, s126_141, s126_142, s126_144, s126_147, s126_148, s126_150, s126_152, s126_154, s126_156, s126_157, s126_160, s126_161, s126_163, s126_166, s126_167, s126_169, s126_171, s126_173, s126_174, s126_175, s126_178, s126_179, s126_181, s126_184, s126_185, s126_187, s126_189, s126_191, s126_193, s126_194, s126_197, if_pos, if_neg, h, List.getElem?_cons_zero, List.getElem?_cons_succ, Option.bind_some, Option.toList_some, Option.toList_none, List.cons_append, List.nil_append]
  · refine wd 100 117 112 0 5 (by decide +kernel) (by decide) (by decide) (by decide) (by decide) (fun w2 h => ?_)
    have h : ex_call X 108 [.ref 32, .int 100, .int 117, .int 112, .int 0, .int 0] w = some (none, w2) := h
    simp (disch := first | assumption | decide) only [s126_0, s126_1, s126_4, s126_5, s126_7, s126_9, s126_11, s126_12, s126_13, s126_16, s126_17, s126_18, s126_21, s126_22, s126_24, s126_26, s126_28, s126_30, s126_31, s126_34, s126_35, s126_36, s126_39, s126_40, s126_42, s126_44, s126_46, s126_48, s126_49, s126_52, s126_53, s126_54, s126_57, s126_58, s126_60, s126_62, s126_64, s126_65, s126_66, s126_69, s126_70, s126_71, s126_74, s126_75, s126_77, s126_79, s126_81, s126_82, s126_83, s126_86, s126_87, s126_88, s126_91, s126_92, s126_94, s126_96, s126_98, s126_99, s126_100, s126_103, s126_104, s126_106, s126_109, s126_110, s126_112, s126_114, s126_116, s126_118, s126_119, s126_122, s126_123, s126_125, s126_128, s126_129, s126_131, s126_133, s126_135, s126_137, s126_138, s126_141, s126_142, s126_144, s126_147, s126_148, s126_150, s126_152, s126_154, s126_156, s126_157, s126_160, s126_161, s126_163, s126_166, s126_167, s126_169, s126_171, s126_173, s126_174, s126_175, s126_178, s126_179, s126_181, s126_184, s126_185, s126_187, s126_189, s126_191, s126_193, s126_194, s126_197, if_pos, if_neg, h, List.getElem?_cons_zero, List.getElem?_cons_succ, Option.bind_some, Option.toList_some, Option.toList_none, List.cons_append, List.nil_append]
  · refine wd 106 117 109 112 6 (by decide +kernel) (by decide) (by decide) (by decide) (by decide) (fun w2 h => ?_)
    have h : ex_call X 108 [.ref 32, .int 106, .int 117, .int 109, .int 112, .int 0] w = some (none, w2) := h
    simp (disch := first | assumption | decide) only [s126_0, s126_1, s126_4, s126_5, s126_7, s126_9, s126_11, s126_12, s126_13, s126_16, s126_17, s126_18, s126_21, s126_22, s126_24, s126_26, s126_28, s126_30, s126_31, s126_34, s126_35, s126_36, s126_39, s126_40, s126_42, s126_44, s126_46, s126_48, s126_49, s126_52, s126_53, s126_54, s126_57, s126_58, s126_60, s126_62, s126_64, s126_65, s126_66, s126_69, s126_70, s126_71, s126_74, s126_75, s126_77, s126_79, s126_81, s126_82, s126_83, s126_86, s126_87, s126_88, s126_91, s126_92, s126_94, s126_96, s126_98, s126_99, s126_100, s126_103, s126_104, s126_106, s126_109, s126_110, s126_112, s126_114, s126_116, s126_118, s126_119, s126_122, s126_123, s126_125, s126_128, s126_129, s126_131, s126_133, s126_135, s126_137, s126_138, s126_141, s126_142, s126_144, s126_147, s126_148, s126_150, s126_152, s126_154, s126_156, s126_157, s126_160, s126_161, s126_163, s126_166, s126_167, s126_169, s126_171, s126_173, s126_174, s126_175, s126_178, s126_179, s126_181, s126_184, s126_185, s126_187, s126_189, s126_191, s126_193, s126_194, s126_197, if_pos, if_neg, h, List.getElem?_cons_zero, List.getElem?_cons_succ, Option.bind_some, Option.toList_some, Option.toList_none, List.cons_append, List.nil_append]
  · refine wd 122 101 114 111 7 (by decide +kernel) (by decide) (by decide) (by decide) (by decide) (fun w2 h => ?_)
    have h : ex_call X 108 [.ref 32, .int 122, .int 101, .int 114, .int 111, .int 0] w = some (none, w2) := h
    simp (disch := first | assumption | decide) only [s126_0, s126_1, s126_4, s126_5, s126_7, s126_9, s126_11, s126_12, s126_13, s126_16, s126_17, s126_18, s126_21, s126_22, s126_24, s126_26, s126_28, s126_30, s126_31, s126_34, s126_35, s126_36, s126_39, s126_40, s126_42, s126_44, s126_46, s126_48, s126_49, s126_52, s126_53, s126_54, s126_57, s126_58, s126_60, s126_62, s126_64, s126_65, s126_66, s126_69, s126_70, s126_71, s126_74, s126_75, s126_77, s126_79, s126_81, s126_82, s126_83, s126_86, s126_87, s126_88, s126_91, s126_92, s126_94, s126_96, s126_98, s126_99, s126_100, s126_103, s126_104, s126_106, s126_109, s126_110, s126_112, s126_114, s126_116, s126_118, s126_119, s126_122, s126_123, s126_125, s126_128, s126_129, s126_131, s126_133, s126_135, s126_137, s126_138, s126_141, s126_142, s126_144, s126_147, s126_148, s126_150, s126_152, s126_154, s126_156, s126_157, s126_160, s126_161, s126_163, s126_166, s126_167, s126_169, s126_171, s126_173, s126_174, s126_175, s126_178, s126_179, s126_181, s126_184, s126_185, s126_187, s126_189, s126_191, s126_193, s126_194, s126_197, if_pos, if_neg, h, List.getElem?_cons_zero, List.getElem?_cons_succ, Option.bind_some, Option.toList_some, Option.toList_none, List.cons_append, List.nil_append]
  · refine wd 99 97 108 108 8 (by decide +kernel) (by decide) (by decide) (by decide) (by decide) (fun w2 h => ?_)
    have h : ex_call X 108 [.ref 32, .int 99, .int 97, .int 108, .int 108, .int 0] w = some (none, w2) := h
    simp (disch := first | assumption | decide) only [s126_0, s126_1, s126_4, s126_5, s126_7, s126_9, s126_11, s126_12, s126_13, s126_16, s126_17, s126_18, s126_21, s126_22, s126_24, s126_26, s126_28, s126_30, s126_31, s126_34, s126_35, s126_36, s126_39, s126_40, s126_42, s126_44, s126_46, s126_48, s126_49, s126_52, s126_53, s126_54, s126_57, s126_58, s126_60, s126_62, s126_64, s126_65, s126_66, s126_69, s126_70, s126_71, s126_74, s126_75, s126_77, s126_79, s126_81, s126_82, s126_83, s126_86, s126_87, s126_88, s126_91, s126_92, s126_94, s126_96, s126_98, s126_99, s126_100, s126_103, s126_104, s126_106, s126_109, s126_110, s126_112, s126_114, s126_116, s126_118, s126_119, s126_122, s126_123, s126_125, s126_128, s126_129, s126_131, s126_133, s126_135, s126_137, s126_138, s126_141, s126_142, s126_144, s126_147, s126_148, s126_150, s126_152, s126_154, s126_156, s126_157, s126_160, s126_161, s126_163, s126_166, s126_167, s126_169, s126_171, s126_173, s126_174, s126_175, s126_178, s126_179, s126_181, s126_184, s126_185, s126_187, s126_189, s126_191, s126_193, s126_194, s126_197, if_pos, if_neg, h, List.getElem?_cons_zero, List.getElem?_cons_succ, Option.bind_some, Option.toList_some, Option.toList_none, List.cons_append, List.nil_append]
  · refine wd 114 101 116 0 9 (by decide +kernel) (by decide) (by decide) (by decide) (by decide) (fun w2 h => ?_)
    have h : ex_call X 108 [.ref 32, .int 114, .int 101, .int 116, .int 0, .int 0] w = some (none, w2) := h
    simp (disch := first | assumption | decide) only [s126_0, s126_1, s126_4, s126_5, s126_7, s126_9, s126_11, s126_12, s126_13, s126_16, s126_17, s126_18, s126_21, s126_22, s126_24, s126_26, s126_28, s126_30, s126_31, s126_34, s126_35, s126_36, s126_39, s126_40, s126_42, s126_44, s126_46, s126_48, s126_49, s126_52, s126_53, s126_54, s126_57, s126_58, s126_60, s126_62, s126_64, s126_65, s126_66, s126_69, s126_70, s126_71, s126_74, s126_75, s126_77, s126_79, s126_81, s126_82, s126_83, s126_86, s126_87, s126_88, s126_91, s126_92, s126_94, s126_96, s126_98, s126_99, s126_100, s126_103, s126_104, s126_106, s126_109, s126_110, s126_112, s126_114, s126_116, s126_118, s126_119, s126_122, s126_123, s126_125, s126_128, s126_129, s126_131, s126_133, s126_135, s126_137, s126_138, s126_141, s126_142, s126_144, s126_147, s126_148, s126_150, s126_152, s126_154, s126_156, s126_157, s126_160, s126_161, s126_163, s126_166, s126_167, s126_169, s126_171, s126_173, s126_174, s126_175, s126_178, s126_179, s126_181, s126_184, s126_185, s126_187, s126_189, s126_191, s126_193, s126_194, s126_197, if_pos, if_neg, h, List.getElem?_cons_zero, List.getElem?_cons_succ, Option.bind_some, Option.toList_some, Option.toList_none, List.cons_append, List.nil_append]
  · refine wd 112 105 99 107 10 (by decide +kernel) (by decide) (by decide) (by decide) (by decide) (fun w2 h => ?_)
    have h : ex_call X 108 [.ref 32, .int 112, .int 105, .int 99, .int 107, .int 0] w = some (none, w2) := h
    simp (disch := first | assumption | decide) only [s126_0, s126_1, s126_4, s126_5, s126_7, s126_9, s126_11, s126_12, s126_13, s126_16, s126_17, s126_18, s126_21, s126_22, s126_24, s126_26, s126_28, s126_30, s126_31, s126_34, s126_35, s126_36, s126_39, s126_40, s126_42, s126_44, s126_46, s126_48, s126_49, s126_52, s126_53, s126_54, s126_57, s126_58, s126_60, s126_62, s126_64, s126_65, s126_66, s126_69, s126_70, s126_71, s126_74, s126_75, s126_77, s126_79, s126_81, s126_82, s126_83, s126_86, s126_87, s126_88, s126_91, s126_92, s126_94, s126_96, s126_98, s126_99, s126_100, s126_103, s126_104, s126_106, s126_109, s126_110, s126_112, s126_114, s126_116, s126_118, s126_119, s126_122, s126_123, s126_125, s126_128, s126_129, s126_131, s126_133, s126_135, s126_137, s126_138, s126_141, s126_142, s126_144, s126_147, s126_148, s126_150, s126_152, s126_154, s126_156, s126_157, s126_160, s126_161, s126_163, s126_166, s126_167, s126_169, s126_171, s126_173, s126_174, s126_175, s126_178, s126_179, s126_181, s126_184, s126_185, s126_187, s126_189, s126_191, s126_193, s126_194, s126_197, if_pos, if_neg, h, List.getElem?_cons_zero, List.getElem?_cons_succ, Option.bind_some, Option.toList_some, Option.toList_none, List.cons_append, List.nil_append]
theorem y_distLoop (Y : isBm w0 bs B) (hL : okL B f n L) (hn : n ≤ 120) (hf : f + n ≤ B.length) (hb : bgS f n L bg) (hp : p ∈ L) (hln : lnF n (Tb B f n L) n ln) : ∀ (r k : Nat) (t : List Nat) (ds : List Int32) (w : ex_W), k + r = distN B p → isTx w0 w m v t ds bg ln → t.length + (disT B f (Tb B f n L) p r k).length + 1 ≤ 808 → ∃ ds2 w2, ex_go X 125 142 [(0, .ref 32), (1, .int (nI f)), (2, .int (nI n)), (3, .int (nI p)), (4, .int (nI (B.getD p 0))), (5, .int (nI (distN B p))), (6, .int (nI k))] [] w = some (none, w2) ∧ isTx w0 w2 m v (t ++ disT B f (Tb B f n L) p r k ++ [10]) ds2 bg ln := by
  have hd := distN_le Y.2.2.2 p
  intro r
  induction r with
  | zero =>
    intro k t ds w hk S hl
    have e : nI (distN B p) ≤ nI k := nI_le (by omega) (by omega)
    have rc := tx_rc S
    obtain ⟨w1, a1, S1⟩ := y_say (X := X) (c := 10) S (by omega)
    have a1 : ex_call X 109 [.ref 32, .int 10] w = some (none, w1) := a1
    refine ⟨ds, w1, ?_, by rw [disT, List.append_nil]; exact S1⟩
    simp (disch := first | assumption | decide) only [s125_142, s125_144, s125_146, s125_173, s125_174, s125_176, s125_179, if_pos e, a1, List.getElem?_cons_zero, List.getElem?_cons_succ, Option.bind_some, Option.toList_some, Option.toList_none, List.cons_append, List.nil_append]
  | succ r ih =>
    intro k t ds w hk S hl
    have e : ¬ nI (distN B p) ≤ nI k := nI_ge (by omega) (by omega)
    have rc := tx_rc S
    rw [disT, List.length_cons, List.length_append] at hl
    obtain ⟨ds2, w2, a2, S2⟩ := y_tellDistance (X := X) (q := k) S Y hL hn hf hb hp (by omega) hln (by omega)
    obtain ⟨ds3, w3, a3, S3⟩ := ih (k + 1) _ ds2 w2 (by omega) S2 (by rw [List.length_append, List.length_cons]; omega)
    have fo := y_firstOf (X := X) (w := w) (p := p) (dist_op (B := B) (p := p) (by omega))
    have mu : (2 : Int32) * nI k = nI (2 * k) := pk_mul 2 k
    refine ⟨ds3, w3, ?_, ?_⟩
    · rw [s125_142]
      simp (disch := first | assumption | decide) only [s125_144, s125_146, s125_149, s125_150, s125_151, s125_152, s125_153, s125_155, s125_156, s125_159, s125_160, s125_162, s125_163, s125_164, s125_167, s125_170, if_neg e, fo, List.getElem?_cons_zero, List.getElem?_cons_succ, Option.bind_some, Option.toList_some, Option.toList_none, List.cons_append, List.nil_append, mu, nI_add, a2, nI_1, a3]
    · rw [disT]
      simp only [List.append_assoc, List.cons_append, List.nil_append] at S3 ⊢
      exact S3
theorem wd1_neg : ∀ b, b < 256 → (127 < b → (nI b - 256).toInt64 = (-1 : Int64) * 256 + (nI b).toInt64) := by decide +kernel
theorem wd1_pos : ∀ b, b < 256 → (¬ 127 < b → (nI b).toInt64 = (0 : Int64) * 256 + (nI b).toInt64) := by decide +kernel
/-- a line's own line @K -/
def lbl (T : Nat → Bool) (j : Nat) : List Nat := if T j = true then 64 :: nB (cntB T j) ++ [10] else []
theorem y_tellInstruction {i : Nat} (S : isTx w0 w m v t ds bg ln) (Y : isBm w0 bs B) (hL : okL B f n L) (hn : n ≤ 120) (hf : f + n ≤ B.length) (hb : bgS f n L bg) (hp : f + i ∈ L) (hln : lnF n (Tb B f n L) n ln) (hl : t.length + (lbl (Tb B f n L) i).length + (insT B f (Tb B f n L) (f + i)).length + 1 ≤ 808) : ∃ ds2 w2, ex_call X 125 [.ref 32, .int (nI f), .int (nI n), .int (nI (f + i))] w = some (none, w2) ∧ isTx w0 w2 m v (t ++ lbl (Tb B f n L) i ++ insT B f (Tb B f n L) (f + i) ++ [10]) ds2 bg ln := by
  obtain ⟨l1, l2, l3, l4⟩ := hL _ hp
  have hbl : B.length ≤ 130 := by have := Y.2.2.1.1; have := Y.2.1; omega
  have hcn := cntB_le (Tb B f n L) i
  have sb : nI (f + i) - nI f = nI i := by rw [pk_sub (by omega), show f + i - f = i by omega]
  have rc := tx_rc S
  have h0 := y_blk (tx_B S Y) (p := f + i) (by omega)
  -- the label
  have st1 : ∃ ds2 w2, ex_call X 125 [.ref 32, .int (nI f), .int (nI n), .int (nI (f + i))] w = ex_go X 125 46 [(0, .ref 32), (1, .int (nI f)), (2, .int (nI n)), (3, .int (nI (f + i))), (4, .int (nI (B.getD (f + i) 0)))] [] w2 ∧ isTx w0 w2 m v (t ++ lbl (Tb B f n L) i) ds2 bg ln := by
    show ∃ ds2 w2, ex_go X 125 0 [(0, .ref 32), (1, .int (nI f)), (2, .int (nI n)), (3, .int (nI (f + i)))] [] w = _ ∧ _
    have ll := tx_ll (i := i) S (by omega)
    unfold lbl at hl ⊢
    cases hT : Tb B f n L i with
    | true =>
      rw [hT, if_pos rfl] at hl
      rw [if_pos rfl]
      unfold nB at hl ⊢
      simp only [List.length_append, List.length_cons, List.length_nil] at hl
      rw [(hln i (by omega)).1 hT, if_pos (by omega)] at ll
      have e0 : ¬ nI (cntB (Tb B f n L) i + 1) ≤ 0 := nI_ge (a := 0) (by omega) (by omega)
      obtain ⟨w1, a1, S1⟩ := y_say (X := X) (c := 64) S (by omega)
      have a1 : ex_call X 109 [.ref 32, .int 64] w = some (none, w1) := a1
      have rc1 := tx_rc S1
      have ll1 := tx_ll (i := i) S1 (by omega)
      rw [(hln i (by omega)).1 hT, if_pos (by omega)] at ll1
      obtain ⟨ds2, w2, a2, S2⟩ := y_number (X := X) (x := (nI (cntB (Tb B f n L) i)).toInt64) S1 (by simp only [List.length_append, List.length_singleton]; omega)
      have rc2 := tx_rc S2
      obtain ⟨w3, a3, S3⟩ := y_say (X := X) (c := 10) S2 (by simp only [List.length_append, List.length_singleton]; omega)
      have a3 : ex_call X 109 [.ref 32, .int 10] w2 = some (none, w3) := a3
      refine ⟨ds2, w3, ?_, ?_⟩
      · simp (disch := first | assumption | decide) only [s125_0, s125_1, s125_4, s125_5, s125_6, s125_8, s125_9, s125_12, s125_13, s125_14, s125_15, s125_16, s125_19, s125_20, s125_22, s125_25, s125_26, s125_27, s125_30, s125_31, s125_32, s125_33, s125_34, s125_35, s125_36, s125_37, s125_40, s125_41, s125_43, tx_g0 S, List.getElem?_cons_zero, List.getElem?_cons_succ, Option.bind_some, Option.toList_some, Option.toList_none, List.cons_append, List.nil_append, h0, tx_g12 S, sb, ll, if_neg e0, a1, tx_g12 S1, ll1, nI_pred, a2, a3]
      · simp only [List.append_assoc, List.cons_append, List.nil_append] at S3 ⊢
        exact S3
    | false =>
      rw [(hln i (by omega)).2 hT] at ll
      have e0 : (0 : Int32) ≤ 0 := by decide
      rw [if_neg Bool.false_ne_true, List.append_nil]
      refine ⟨ds, w, ?_, S⟩
      simp (disch := first | assumption | decide) only [s125_0, s125_1, s125_4, s125_5, s125_6, s125_8, s125_9, s125_12, s125_13, s125_14, s125_15, s125_16, s125_19, s125_20, s125_22, s125_25, s125_26, s125_27, s125_30, s125_31, s125_32, s125_33, s125_34, s125_35, s125_36, s125_37, s125_40, s125_41, s125_43, tx_g0 S, List.getElem?_cons_zero, List.getElem?_cons_succ, Option.bind_some, Option.toList_some, Option.toList_none, List.cons_append, List.nil_append, h0, tx_g12 S, sb, ll, if_pos e0]
  obtain ⟨ds1, w1, a1, S1⟩ := st1
  unfold insT at hl ⊢
  simp only [List.length_append] at hl
  have hop : (opW (B.getD (f + i) 0)).length ≤ 4 ∧ 3 ≤ (opW (B.getD (f + i) 0)).length := by
    have : ∀ x, x < 11 → (opW x).length ≤ 4 ∧ 3 ≤ (opW x).length := by decide +kernel
    exact this _ (by omega)
  obtain ⟨w2, a2, S2⟩ := y_sayWord (X := X) (x := B.getD (f + i) 0) l4 S1 (by rw [List.length_append]; omega)
  have rc1 := tx_rc S1
  have rc2 := tx_rc S2
  have h02 := y_blk (tx_B S2 Y) (p := f + i) (by omega)
  have arg : ∃ ds2 w3, ex_go X 125 52 [(0, .ref 32), (1, .int (nI f)), (2, .int (nI n)), (3, .int (nI (f + i))), (4, .int (nI (B.getD (f + i) 0)))] [] w2 = ex_go X 125 132 [(0, .ref 32), (1, .int (nI f)), (2, .int (nI n)), (3, .int (nI (f + i))), (4, .int (nI (B.getD (f + i) 0)))] [] w3 ∧ isTx w0 w3 m v (t ++ lbl (Tb B f n L) i ++ opW (B.getD (f + i) 0) ++ opA B (f + i)) ds2 bg ln := by
    unfold opA at hl ⊢
    by_cases c1 : B.getD (f + i) 0 = 1
    · have h2 : headN (B.getD (f + i) 0) = 2 := by rw [c1]; rfl
      rw [if_pos c1, List.length_cons] at hl
      rw [if_pos c1]
      obtain ⟨w3, a3, S3⟩ := y_say (X := X) (c := 32) S2 (by simp only [List.length_append]; omega)
      have a3 : ex_call X 109 [.ref 32, .int 32] w2 = some (none, w3) := a3
      have rc3 := tx_rc S3
      have h1 := y_blk (tx_B S3 Y) (p := f + i + 1) (by omega)
      have hb1 := Y.2.2.2 (f + i + 1)
      obtain ⟨ds4, w4, a4, S4⟩ := y_number (X := X) (x := wdN B (f + i + 1) 1) S3 (by simp only [List.length_append, List.length_singleton]; omega)
      refine ⟨ds4, w4, ?_, by simp only [List.append_assoc, List.cons_append, List.nil_append] at S4 ⊢; exact S4⟩
      have e1 : nI (B.getD (f + i) 0) = 1 := by rw [c1]; rfl
      have e1n : ¬ ¬ nI (B.getD (f + i) 0) = 1 := fun z => z e1
      rw [wdN, wdN, Nat.add_zero] at a4
      by_cases c3 : 127 < B.getD (f + i + 1) 0
      · rw [if_pos c3, ← wd1_neg _ hb1 c3] at a4
        have e3 : ¬ nI (B.getD (f + i + 1) 0) ≤ 127 := nI_ge (a := 127) (by omega) (by omega)
        simp (disch := first | assumption | decide) only [s125_52, s125_54, s125_55, s125_58, s125_60, s125_61, s125_64, s125_66, s125_68, s125_71, s125_73, s125_75, s125_78, s125_79, s125_81, s125_84, s125_85, s125_87, s125_88, s125_91, s125_92, s125_95, s125_96, s125_97, s125_98, s125_99, s125_101, s125_104, s125_105, s125_108, s125_109, s125_110, s125_111, s125_112, s125_115, s125_116, s125_117, s125_120, s125_121, s125_124, s125_125, s125_126, s125_127, s125_128, s125_129, if_pos e1, if_neg e1n, a3, List.getElem?_cons_zero, List.getElem?_cons_succ, Option.bind_some, Option.toList_some, Option.toList_none, List.cons_append, List.nil_append, tx_g0 S3, nI_1, h1, if_neg e3, a4]
      · rw [if_neg c3, ← wd1_pos _ hb1 c3] at a4
        have e3 : nI (B.getD (f + i + 1) 0) ≤ 127 := nI_le (b := 127) (by omega) (by decide)
        simp (disch := first | assumption | decide) only [s125_52, s125_54, s125_55, s125_58, s125_60, s125_61, s125_64, s125_66, s125_68, s125_71, s125_73, s125_75, s125_78, s125_79, s125_81, s125_84, s125_85, s125_87, s125_88, s125_91, s125_92, s125_95, s125_96, s125_97, s125_98, s125_99, s125_101, s125_104, s125_105, s125_108, s125_109, s125_110, s125_111, s125_112, s125_115, s125_116, s125_117, s125_120, s125_121, s125_124, s125_125, s125_126, s125_127, s125_128, s125_129, if_pos e1, if_neg e1n, a3, List.getElem?_cons_zero, List.getElem?_cons_succ, Option.bind_some, Option.toList_some, Option.toList_none, List.cons_append, List.nil_append, tx_g0 S3, nI_1, h1, if_pos e3, a4]
    · have e1 : ¬ nI (B.getD (f + i) 0) = 1 := fun z => c1 ((nI_eq (b := 1) (by omega) (by decide)).mp z)
      rw [if_neg c1] at hl ⊢
      by_cases c2 : B.getD (f + i) 0 = 2 ∨ B.getD (f + i) 0 = 8 ∨ B.getD (f + i) 0 = 10
      · have h2 : headN (B.getD (f + i) 0) = 2 := by rcases c2 with c | c | c <;> rw [c] <;> rfl
        rw [if_pos c2, List.length_cons] at hl
        rw [if_pos c2]
        unfold nB at hl ⊢
        obtain ⟨w3, a3, S3⟩ := y_say (X := X) (c := 32) S2 (by simp only [List.length_append]; omega)
        have a3 : ex_call X 109 [.ref 32, .int 32] w2 = some (none, w3) := a3
        have rc3 := tx_rc S3
        have h1 := y_blk (tx_B S3 Y) (p := f + i + 1) (by omega)
        obtain ⟨ds4, w4, a4, S4⟩ := y_number (X := X) (x := (nI (B.getD (f + i + 1) 0)).toInt64) S3 (by simp only [List.length_append, List.length_singleton]; omega)
        refine ⟨ds4, w4, ?_, by simp only [List.append_assoc, List.cons_append, List.nil_append] at S4 ⊢; exact S4⟩
        rcases c2 with c | c | c
        · have e2 : nI (B.getD (f + i) 0) = 2 := by rw [c]; rfl
          simp (disch := first | assumption | decide) only [s125_52, s125_54, s125_55, s125_58, s125_60, s125_61, s125_64, s125_66, s125_68, s125_71, s125_73, s125_75, s125_78, s125_79, s125_81, s125_84, s125_85, s125_87, s125_88, s125_91, s125_92, s125_95, s125_96, s125_97, s125_98, s125_99, s125_101, s125_104, s125_105, s125_108, s125_109, s125_110, s125_111, s125_112, s125_115, s125_116, s125_117, s125_120, s125_121, s125_124, s125_125, s125_126, s125_127, s125_128, s125_129, if_neg e1, if_pos e1, if_pos e2, a3, List.getElem?_cons_zero, List.getElem?_cons_succ, Option.bind_some, Option.toList_some, Option.toList_none, List.cons_append, List.nil_append, tx_g0 S3, nI_1, h1, a4]
        · have e2 : ¬ nI (B.getD (f + i) 0) = 2 := by rw [c]; decide
          have e3 : nI (B.getD (f + i) 0) = 8 := by rw [c]; rfl
          simp (disch := first | assumption | decide) only [s125_52, s125_54, s125_55, s125_58, s125_60, s125_61, s125_64, s125_66, s125_68, s125_71, s125_73, s125_75, s125_78, s125_79, s125_81, s125_84, s125_85, s125_87, s125_88, s125_91, s125_92, s125_95, s125_96, s125_97, s125_98, s125_99, s125_101, s125_104, s125_105, s125_108, s125_109, s125_110, s125_111, s125_112, s125_115, s125_116, s125_117, s125_120, s125_121, s125_124, s125_125, s125_126, s125_127, s125_128, s125_129, if_neg e1, if_pos e1, if_neg e2, if_pos e3, a3, List.getElem?_cons_zero, List.getElem?_cons_succ, Option.bind_some, Option.toList_some, Option.toList_none, List.cons_append, List.nil_append, tx_g0 S3, nI_1, h1, a4]
        · have e2 : ¬ nI (B.getD (f + i) 0) = 2 := by rw [c]; decide
          have e3 : ¬ nI (B.getD (f + i) 0) = 8 := by rw [c]; decide
          have e4 : ¬ ¬ nI (B.getD (f + i) 0) = 10 := by rw [c]; decide
          simp (disch := first | assumption | decide) only [s125_52, s125_54, s125_55, s125_58, s125_60, s125_61, s125_64, s125_66, s125_68, s125_71, s125_73, s125_75, s125_78, s125_79, s125_81, s125_84, s125_85, s125_87, s125_88, s125_91, s125_92, s125_95, s125_96, s125_97, s125_98, s125_99, s125_101, s125_104, s125_105, s125_108, s125_109, s125_110, s125_111, s125_112, s125_115, s125_116, s125_117, s125_120, s125_121, s125_124, s125_125, s125_126, s125_127, s125_128, s125_129, if_neg e1, if_pos e1, if_neg e2, if_neg e3, if_neg e4, a3, List.getElem?_cons_zero, List.getElem?_cons_succ, Option.bind_some, Option.toList_some, Option.toList_none, List.cons_append, List.nil_append, tx_g0 S3, nI_1, h1, a4]
      · rw [if_neg c2, List.append_nil]
        have e2 : ¬ nI (B.getD (f + i) 0) = 2 := fun z => c2 (Or.inl ((nI_eq (b := 2) (by omega) (by decide)).mp z))
        have e3 : ¬ nI (B.getD (f + i) 0) = 8 := fun z => c2 (Or.inr (Or.inl ((nI_eq (b := 8) (by omega) (by decide)).mp z)))
        have e4 : ¬ nI (B.getD (f + i) 0) = 10 := fun z => c2 (Or.inr (Or.inr ((nI_eq (b := 10) (by omega) (by decide)).mp z)))
        refine ⟨ds1, w2, ?_, S2⟩
        simp (disch := first | assumption | decide) only [s125_52, s125_54, s125_55, s125_58, s125_60, s125_61, s125_64, s125_66, s125_68, s125_71, s125_73, s125_75, s125_78, s125_79, s125_81, s125_84, s125_85, s125_87, s125_88, s125_91, s125_92, s125_95, s125_96, s125_97, s125_98, s125_99, s125_101, s125_104, s125_105, s125_108, s125_109, s125_110, s125_111, s125_112, s125_115, s125_116, s125_117, s125_120, s125_121, s125_124, s125_125, s125_126, s125_127, s125_128, s125_129, if_neg e1, if_neg e2, if_neg e3, if_pos e4]
  obtain ⟨ds3, w3, a3, S3⟩ := arg
  have rc3 := tx_rc S3
  have yd := y_distances (X := X) (p := f + i) (tx_B S3 Y) (by omega) (fun h => by
    have : headN (B.getD (f + i) 0) = 2 := by rw [h]; rfl
    omega)
  obtain ⟨ds4, w4, a4, S4⟩ := y_distLoop (X := X) Y hL hn hf hb hp hln (distN B (f + i)) 0 _ ds3 w3 (by omega) S3 (by simp only [List.length_append]; omega)
  have a4 : ex_go X 125 142 [(0, .ref 32), (1, .int (nI f)), (2, .int (nI n)), (3, .int (nI (f + i))), (4, .int (nI (B.getD (f + i) 0))), (5, .int (nI (distN B (f + i)))), (6, .int 0)] [] w3 = _ := a4
  refine ⟨ds4, w4, ?_, by simp only [List.append_assoc, List.cons_append, List.nil_append] at S4 ⊢; exact S4⟩
  rw [a1]
  simp (disch := first | assumption | decide) only [s125_46, s125_47, s125_49, a2, List.getElem?_cons_zero, List.getElem?_cons_succ, Option.bind_some, Option.toList_some, Option.toList_none, List.cons_append, List.nil_append]
  rw [a3]
  simp (disch := first | assumption | decide) only [s125_132, s125_133, s125_134, s125_137, s125_139, s125_140, yd, List.getElem?_cons_zero, List.getElem?_cons_succ, Option.bind_some, Option.toList_some, Option.toList_none, List.cons_append, List.nil_append, a4]
end TELL3
