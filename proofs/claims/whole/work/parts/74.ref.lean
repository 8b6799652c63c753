/-! the other object's codes -/
section REF6
variable {X : Option (List Int32)} {w0 w : ex_W} {A : Nat → Int32} {S : List Nat} {p : Nat} {fr to : Int32} {v : Int64} {M : List Nat} {b q ca : Nat} {ls : List Nat} {ns : NM}
theorem y_operation {pl : Nat} (K : RS w0 A w S pl (nI (wF S p)) (nI (wT S p)) v M b q ca ls ns) (E : isSr w0 S) (hp : p ≤ S.length) (hw : wF S p < wT S p) : ex_call X 156 [.ref 32] w = some (some (.int (if opN S p ≤ 10 then nI (opN S p) else -1)), w) := by
  have rc := rs_rc K
  have n1 : ¬ (1 : Int32) = 0 := by decide
  have i0 : ex_call X 141 [.ref 32, .int 110, .int 111, .int 112, .int 0, .int 0, .int 0] w = _ := y_is (X := X) (xs := txN 22) (c0 := 110) (c1 := 111) (c2 := 112) (c3 := 0) (c4 := 0) (c5 := 0) K E hp hw (by decide) (by decide +kernel) (by decide +kernel) (by decide +kernel) (by decide +kernel) (by decide +kernel) (by decide +kernel) (by decide +kernel)
  have i1 : ex_call X 141 [.ref 32, .int 112, .int 117, .int 115, .int 104, .int 0, .int 0] w = _ := y_is (X := X) (xs := txN 23) (c0 := 112) (c1 := 117) (c2 := 115) (c3 := 104) (c4 := 0) (c5 := 0) K E hp hw (by decide) (by decide +kernel) (by decide +kernel) (by decide +kernel) (by decide +kernel) (by decide +kernel) (by decide +kernel) (by decide +kernel)
  have i2 : ex_call X 141 [.ref 32, .int 108, .int 111, .int 97, .int 100, .int 0, .int 0] w = _ := y_is (X := X) (xs := txN 24) (c0 := 108) (c1 := 111) (c2 := 97) (c3 := 100) (c4 := 0) (c5 := 0) K E hp hw (by decide) (by decide +kernel) (by decide +kernel) (by decide +kernel) (by decide +kernel) (by decide +kernel) (by decide +kernel) (by decide +kernel)
  have i3 : ex_call X 141 [.ref 32, .int 97, .int 100, .int 100, .int 0, .int 0, .int 0] w = _ := y_is (X := X) (xs := txN 25) (c0 := 97) (c1 := 100) (c2 := 100) (c3 := 0) (c4 := 0) (c5 := 0) K E hp hw (by decide) (by decide +kernel) (by decide +kernel) (by decide +kernel) (by decide +kernel) (by decide +kernel) (by decide +kernel) (by decide +kernel)
  have i4 : ex_call X 141 [.ref 32, .int 115, .int 117, .int 98, .int 0, .int 0, .int 0] w = _ := y_is (X := X) (xs := txN 26) (c0 := 115) (c1 := 117) (c2 := 98) (c3 := 0) (c4 := 0) (c5 := 0) K E hp hw (by decide) (by decide +kernel) (by decide +kernel) (by decide +kernel) (by decide +kernel) (by decide +kernel) (by decide +kernel) (by decide +kernel)
  have i5 : ex_call X 141 [.ref 32, .int 100, .int 117, .int 112, .int 0, .int 0, .int 0] w = _ := y_is (X := X) (xs := txN 27) (c0 := 100) (c1 := 117) (c2 := 112) (c3 := 0) (c4 := 0) (c5 := 0) K E hp hw (by decide) (by decide +kernel) (by decide +kernel) (by decide +kernel) (by decide +kernel) (by decide +kernel) (by decide +kernel) (by decide +kernel)
  have i6 : ex_call X 141 [.ref 32, .int 106, .int 117, .int 109, .int 112, .int 0, .int 0] w = _ := y_is (X := X) (xs := txN 28) (c0 := 106) (c1 := 117) (c2 := 109) (c3 := 112) (c4 := 0) (c5 := 0) K E hp hw (by decide) (by decide +kernel) (by decide +kernel) (by decide +kernel) (by decide +kernel) (by decide +kernel) (by decide +kernel) (by decide +kernel)
  have i7 : ex_call X 141 [.ref 32, .int 122, .int 101, .int 114, .int 111, .int 0, .int 0] w = _ := y_is (X := X) (xs := txN 29) (c0 := 122) (c1 := 101) (c2 := 114) (c3 := 111) (c4 := 0) (c5 := 0) K E hp hw (by decide) (by decide +kernel) (by decide +kernel) (by decide +kernel) (by decide +kernel) (by decide +kernel) (by decide +kernel) (by decide +kernel)
  have i8 : ex_call X 141 [.ref 32, .int 99, .int 97, .int 108, .int 108, .int 0, .int 0] w = _ := y_is (X := X) (xs := txN 30) (c0 := 99) (c1 := 97) (c2 := 108) (c3 := 108) (c4 := 0) (c5 := 0) K E hp hw (by decide) (by decide +kernel) (by decide +kernel) (by decide +kernel) (by decide +kernel) (by decide +kernel) (by decide +kernel) (by decide +kernel)
  have i9 : ex_call X 141 [.ref 32, .int 114, .int 101, .int 116, .int 0, .int 0, .int 0] w = _ := y_is (X := X) (xs := txN 31) (c0 := 114) (c1 := 101) (c2 := 116) (c3 := 0) (c4 := 0) (c5 := 0) K E hp hw (by decide) (by decide +kernel) (by decide +kernel) (by decide +kernel) (by decide +kernel) (by decide +kernel) (by decide +kernel) (by decide +kernel)
  have i10 : ex_call X 141 [.ref 32, .int 112, .int 105, .int 99, .int 107, .int 0, .int 0] w = _ := y_is (X := X) (xs := txN 32) (c0 := 112) (c1 := 105) (c2 := 99) (c3 := 107) (c4 := 0) (c5 := 0) K E hp hw (by decide) (by decide +kernel) (by decide +kernel) (by decide +kernel) (by decide +kernel) (by decide +kernel) (by decide +kernel) (by decide +kernel)
  have eo : opN S p = (if wd S p = txN 22 then 0 else (if wd S p = txN 23 then 1 else (if wd S p = txN 24 then 2 else (if wd S p = txN 25 then 3 else (if wd S p = txN 26 then 4 else (if wd S p = txN 27 then 5 else (if wd S p = txN 28 then 6 else (if wd S p = txN 29 then 7 else (if wd S p = txN 30 then 8 else (if wd S p = txN 31 then 9 else (if wd S p = txN 32 then 10 else 11))))))))))) := rfl
  rw [eo]
  show ex_go X 156 0 [(0, .ref 32)] [] w = _
  by_cases c0 : wd S p = txN 22
  · rw [if_pos c0] at i0
    rw [if_pos c0, if_pos (by decide)]
    simp (disch := first | assumption | decide) only [s156_0, s156_1, s156_3, s156_5, s156_7, s156_8, s156_9, s156_10, s156_13, s156_16, s156_17, s156_18, s156_19, s156_21, s156_23, s156_25, s156_27, s156_28, s156_29, s156_32, s156_35, s156_36, s156_37, s156_38, s156_40, s156_42, s156_44, s156_46, s156_47, s156_48, s156_51, s156_54, s156_55, s156_56, s156_57, s156_59, s156_61, s156_63, s156_64, s156_65, s156_66, s156_69, s156_72, s156_73, s156_74, s156_75, s156_77, s156_79, s156_81, s156_82, s156_83, s156_84, s156_87, s156_90, s156_91, s156_92, s156_93, s156_95, s156_97, s156_99, s156_100, s156_101, s156_102, s156_105, s156_108, s156_109, s156_110, s156_111, s156_113, s156_115, s156_117, s156_119, s156_120, s156_121, s156_124, s156_127, s156_129, s156_130, s156_131, s156_133, s156_135, s156_137, s156_139, s156_140, s156_141, s156_144, s156_147, s156_149, s156_150, s156_151, s156_153, s156_155, s156_157, s156_159, s156_160, s156_161, s156_164, s156_167, s156_169, s156_170, s156_171, s156_173, s156_175, s156_177, s156_178, s156_179, s156_180, s156_183, s156_186, s156_188, s156_189, s156_190, s156_192, s156_194, s156_196, s156_198, s156_199, s156_200, s156_203, s156_206, s156_208, s156_211, s156_212, i0, List.getElem?_cons_zero, List.getElem?_cons_succ, Option.bind_some, Option.toList_some, Option.toList_none, List.cons_append, List.nil_append, not_true_eq_false, if_false, if_true, if_neg n1]
    rfl
  rw [if_neg c0] at i0
  rw [if_neg c0]
  by_cases c1 : wd S p = txN 23
  · rw [if_pos c1] at i1
    rw [if_pos c1, if_pos (by decide)]
    simp (disch := first | assumption | decide) only [s156_0, s156_1, s156_3, s156_5, s156_7, s156_8, s156_9, s156_10, s156_13, s156_16, s156_17, s156_18, s156_19, s156_21, s156_23, s156_25, s156_27, s156_28, s156_29, s156_32, s156_35, s156_36, s156_37, s156_38, s156_40, s156_42, s156_44, s156_46, s156_47, s156_48, s156_51, s156_54, s156_55, s156_56, s156_57, s156_59, s156_61, s156_63, s156_64, s156_65, s156_66, s156_69, s156_72, s156_73, s156_74, s156_75, s156_77, s156_79, s156_81, s156_82, s156_83, s156_84, s156_87, s156_90, s156_91, s156_92, s156_93, s156_95, s156_97, s156_99, s156_100, s156_101, s156_102, s156_105, s156_108, s156_109, s156_110, s156_111, s156_113, s156_115, s156_117, s156_119, s156_120, s156_121, s156_124, s156_127, s156_129, s156_130, s156_131, s156_133, s156_135, s156_137, s156_139, s156_140, s156_141, s156_144, s156_147, s156_149, s156_150, s156_151, s156_153, s156_155, s156_157, s156_159, s156_160, s156_161, s156_164, s156_167, s156_169, s156_170, s156_171, s156_173, s156_175, s156_177, s156_178, s156_179, s156_180, s156_183, s156_186, s156_188, s156_189, s156_190, s156_192, s156_194, s156_196, s156_198, s156_199, s156_200, s156_203, s156_206, s156_208, s156_211, s156_212, i0, i1, List.getElem?_cons_zero, List.getElem?_cons_succ, Option.bind_some, Option.toList_some, Option.toList_none, List.cons_append, List.nil_append, not_true_eq_false, if_false, if_true, if_neg n1]
    rfl
  rw [if_neg c1] at i1
  rw [if_neg c1]
  by_cases c2 : wd S p = txN 24
  · rw [if_pos c2] at i2
    rw [if_pos c2, if_pos (by decide)]
    simp (disch := first | assumption | decide) only [s156_0, s156_1, s156_3, s156_5, s156_7, s156_8, s156_9, s156_10, s156_13, s156_16, s156_17, s156_18, s156_19, s156_21, s156_23, s156_25, s156_27, s156_28, s156_29, s156_32, s156_35, s156_36, s156_37, s156_38, s156_40, s156_42, s156_44, s156_46, s156_47, s156_48, s156_51, s156_54, s156_55, s156_56, s156_57, s156_59, s156_61, s156_63, s156_64, s156_65, s156_66, s156_69, s156_72, s156_73, s156_74, s156_75, s156_77, s156_79, s156_81, s156_82, s156_83, s156_84, s156_87, s156_90, s156_91, s156_92, s156_93, s156_95, s156_97, s156_99, s156_100, s156_101, s156_102, s156_105, s156_108, s156_109, s156_110, s156_111, s156_113, s156_115, s156_117, s156_119, s156_120, s156_121, s156_124, s156_127, s156_129, s156_130, s156_131, s156_133, s156_135, s156_137, s156_139, s156_140, s156_141, s156_144, s156_147, s156_149, s156_150, s156_151, s156_153, s156_155, s156_157, s156_159, s156_160, s156_161, s156_164, s156_167, s156_169, s156_170, s156_171, s156_173, s156_175, s156_177, s156_178, s156_179, s156_180, s156_183, s156_186, s156_188, s156_189, s156_190, s156_192, s156_194, s156_196, s156_198, s156_199, s156_200, s156_203, s156_206, s156_208, s156_211, s156_212, i0, i1, i2, List.getElem?_cons_zero, List.getElem?_cons_succ, Option.bind_some, Option.toList_some, Option.toList_none, List.cons_append, List.nil_append, not_true_eq_false, if_false, if_true, if_neg n1]
    rfl
  rw [if_neg c2] at i2
  rw [if_neg c2]
  by_cases c3 : wd S p = txN 25
  · rw [if_pos c3] at i3
    rw [if_pos c3, if_pos (by decide)]
    simp (disch := first | assumption | decide) only [s156_0, s156_1, s156_3, s156_5, s156_7, s156_8, s156_9, s156_10, s156_13, s156_16, s156_17, s156_18, s156_19, s156_21, s156_23, s156_25, s156_27, s156_28, s156_29, s156_32, s156_35, s156_36, s156_37, s156_38, s156_40, s156_42, s156_44, s156_46, s156_47, s156_48, s156_51, s156_54, s156_55, s156_56, s156_57, s156_59, s156_61, s156_63, s156_64, s156_65, s156_66, s156_69, s156_72, s156_73, s156_74, s156_75, s156_77, s156_79, s156_81, s156_82, s156_83, s156_84, s156_87, s156_90, s156_91, s156_92, s156_93, s156_95, s156_97, s156_99, s156_100, s156_101, s156_102, s156_105, s156_108, s156_109, s156_110, s156_111, s156_113, s156_115, s156_117, s156_119, s156_120, s156_121, s156_124, s156_127, s156_129, s156_130, s156_131, s156_133, s156_135, s156_137, s156_139, s156_140, s156_141, s156_144, s156_147, s156_149, s156_150, s156_151, s156_153, s156_155, s156_157, s156_159, s156_160, s156_161, s156_164, s156_167, s156_169, s156_170, s156_171, s156_173, s156_175, s156_177, s156_178, s156_179, s156_180, s156_183, s156_186, s156_188, s156_189, s156_190, s156_192, s156_194, s156_196, s156_198, s156_199, s156_200, s156_203, s156_206, s156_208, s156_211, s156_212, i0, i1, i2, i3, List.getElem?_cons_zero, List.getElem?_cons_succ, Option.bind_some, Option.toList_some, Option.toList_none, List.cons_append, List.nil_append, not_true_eq_false, if_false, if_true, if_neg n1]
    rfl
  rw [if_neg c3] at i3
  rw [if_neg c3]
  by_cases c4 : wd S p = txN 26
  · rw [if_pos c4] at i4
    rw [if_pos c4, if_pos (by decide)]
    simp (disch := first | assumption | decide) only [s156_0, s156_1, s156_3, s156_5, s156_7, s156_8, s156_9, s156_10, s156_13, s156_16, s156_17, s156_18, s156_19, s156_21, s156_23, s156_25, s156_27, s156_28, s156_29, s156_32, s156_35, s156_36, s156_37, s156_38, s156_40, s156_42, s156_44, s156_46, s156_47, s156_48, s156_51, s156_54, s156_55, s156_56, s156_57, s156_59, s156_61, s156_63, s156_64, s156_65, s156_66, s156_69, s156_72, s156_73, s156_74, s156_75, s156_77, s156_79, s156_81, s156_82, s156_83, s156_84, s156_87, s156_90, s156_91, s156_92, s156_93, s156_95, s156_97, s156_99, s156_100, s156_101, s156_102, s156_105, s156_108, s156_109, s156_110, s156_111, s156_113, s156_115, s156_117, s156_119, s156_120, s156_121, s156_124, s156_127, s156_129, s156_130, s156_131, s156_133, s156_135, s156_137, s156_139, s156_140, s156_141, s156_144, s156_147, s156_149, s156_150, s156_151, s156_153, s156_155, s156_157, s156_159, s156_160, s156_161, s156_164, s156_167, s156_169, s156_170, s156_171, s156_173, s156_175, s156_177, s156_178, s156_179, s156_180, s156_183, s156_186, s156_188, s156_189, s156_190, s156_192, s156_194, s156_196, s156_198, s156_199, s156_200, s156_203, s156_206, s156_208, s156_211, s156_212, i0, i1, i2, i3, i4, List.getElem?_cons_zero, List.getElem?_cons_succ, Option.bind_some, Option.toList_some, Option.toList_none, List.cons_append, List.nil_append, not_true_eq_false, if_false, if_true, if_neg n1]
    rfl
  rw [if_neg c4] at i4
  rw [if_neg c4]
  by_cases c5 : wd S p = txN 27
  · rw [if_pos c5] at i5
    rw [if_pos c5, if_pos (by decide)]
    simp (disch := first | assumption | decide) only [s156_0, s156_1, s156_3, s156_5, s156_7, s156_8, s156_9, s156_10, s156_13, s156_16, s156_17, s156_18, s156_19, s156_21, s156_23, s156_25, s156_27, s156_28, s156_29, s156_32, s156_35, s156_36, s156_37, s156_38, s156_40, s156_42, s156_44, s156_46, s156_47, s156_48, s156_51, s156_54, s156_55, s156_56, s156_57, s156_59, s156_61, s156_63, s156_64, s156_65, s156_66, s156_69, s156_72, s156_73, s156_74, s156_75, s156_77, s156_79, s156_81, s156_82, s156_83, s156_84, s156_87, s156_90, s156_91, s156_92, s156_93, s156_95, s156_97, s156_99, s156_100, s156_101, s156_102, s156_105, s156_108, s156_109, s156_110, s156_111, s156_113, s156_115, s156_117, s156_119, s156_120, s156_121, s156_124, s156_127, s156_129, s156_130, s156_131, s156_133, s156_135, s156_137, s156_139, s156_140, s156_141, s156_144, s156_147, s156_149, s156_150, s156_151, s156_153, s156_155, s156_157, s156_159, s156_160, s156_161, s156_164, s156_167, s156_169, s156_170, s156_171, s156_173, s156_175, s156_177, s156_178, s156_179, s156_180, s156_183, s156_186, s156_188, s156_189, s156_190, s156_192, s156_194, s156_196, s156_198, s156_199, s156_200, s156_203, s156_206, s156_208, s156_211, s156_212, i0, i1, i2, i3, i4, i5, List.getElem?_cons_zero, List.getElem?_cons_succ, Option.bind_some, Option.toList_some, Option.toList_none, List.cons_append, List.nil_append, not_true_eq_false, if_false, if_true, if_neg n1]
    rfl
  rw [if_neg c5] at i5
  rw [if_neg c5]
  by_cases c6 : wd S p = txN 28
  · rw [if_pos c6] at i6
    rw [if_pos c6, if_pos (by decide)]
    simp (disch := first | assumption | decide) only [s156_0, s156_1, s156_3, s156_5, s156_7, s156_8, s156_9, s156_10, s156_13, s156_16, s156_17, s156_18, s156_19, s156_21, s156_23, s156_25, s156_27, s156_28, s156_29, s156_32, s156_35, s156_36, s156_37, s156_38, s156_40, s156_42, s156_44, s156_46, s156_47, s156_48, s156_51, s156_54, s156_55, s156_56, s156_57, s156_59, s156_61, s156_63, s156_64, s156_65, s156_66, s156_69, s156_72, s156_73, s156_74, s156_75, s156_77, s156_79, s156_81, s156_82, s156_83, s156_84, s156_87, s156_90, s156_91, s156_92, s156_93, s156_95, s156_97, s156_99, s156_100, s156_101, s156_102, s156_105, s156_108, s156_109, s156_110, s156_111, s156_113, s156_115, s156_117, s156_119, s156_120, s156_121, s156_124, s156_127, s156_129, s156_130, s156_131, s156_133, s156_135, s156_137, s156_139, s156_140, s156_141, s156_144, s156_147, s156_149, s156_150, s156_151, s156_153, s156_155, s156_157, s156_159, s156_160, s156_161, s156_164, s156_167, s156_169, s156_170, s156_171, s156_173, s156_175, s156_177, s156_178, s156_179, s156_180, s156_183, s156_186, s156_188, s156_189, s156_190, s156_192, s156_194, s156_196, s156_198, s156_199, s156_200, s156_203, s156_206, s156_208, s156_211, s156_212, i0, i1, i2, i3, i4, i5, i6, List.getElem?_cons_zero, List.getElem?_cons_succ, Option.bind_some, Option.toList_some, Option.toList_none, List.cons_append, List.nil_append, not_true_eq_false, if_false, if_true, if_neg n1]
    rfl
  rw [if_neg c6] at i6
  rw [if_neg c6]
  by_cases c7 : wd S p = txN 29
  · rw [if_pos c7] at i7
    rw [if_pos c7, if_pos (by decide)]
    simp (disch := first | assumption | decide) only [s156_0, s156_1, s156_3, s156_5, s156_7, s156_8, s156_9, s156_10, s156_13, s156_16, s156_17, s156_18, s156_19, s156_21, s156_23, s156_25, s156_27, s156_28, s156_29, s156_32, s156_35, s156_36, s156_37, s156_38, s156_40, s156_42, s156_44, s156_46, s156_47, s156_48, s156_51, s156_54, s156_55, s156_56, s156_57, s156_59, s156_61, s156_63, s156_64, s156_65, s156_66, s156_69, s156_72, s156_73, s156_74, s156_75, s156_77, s156_79, s156_81, s156_82, s156_83, s156_84, s156_87, s156_90, s156_91, s156_92, s156_93, s156_95, s156_97, s156_99, s156_100, s156_101, s156_102, s156_105, s156_108, s156_109, s156_110, s156_111, s156_113, s156_115, s156_117, s156_119, s156_120, s156_121, s156_124, s156_127, s156_129, s156_130, s156_131, s156_133, s156_135, s156_137, s156_139, s156_140, s156_141, s156_144, s156_147, s156_149, s156_150, s156_151, s156_153, s156_155, s156_157, s156_159, s156_160, s156_161, s156_164, s156_167, s156_169, s156_170, s156_171, s156_173, s156_175, s156_177, s156_178, s156_179, s156_180, s156_183, s156_186, s156_188, s156_189, s156_190, s156_192, s156_194, s156_196, s156_198, s156_199, s156_200, s156_203, s156_206, s156_208, s156_211, s156_212, i0, i1, i2, i3, i4, i5, i6, i7, List.getElem?_cons_zero, List.getElem?_cons_succ, Option.bind_some, Option.toList_some, Option.toList_none, List.cons_append, List.nil_append, not_true_eq_false, if_false, if_true, if_neg n1]
    rfl
  rw [if_neg c7] at i7
  rw [if_neg c7]
  by_cases c8 : wd S p = txN 30
  · rw [if_pos c8] at i8
    rw [if_pos c8, if_pos (by decide)]
    simp (disch := first | assumption | decide) only [s156_0, s156_1, s156_3, s156_5, s156_7, s156_8, s156_9, s156_10, s156_13, s156_16, s156_17, s156_18, s156_19, s156_21, s156_23, s156_25, s156_27, s156_28, s156_29, s156_32, s156_35, s156_36, s156_37, s156_38, s156_40, s156_42, s156_44, s156_46, s156_47, s156_48, s156_51, s156_54, s156_55, s156_56, s156_57, s156_59, s156_61, s156_63, s156_64, s156_65, s156_66, s156_69, s156_72, s156_73, s156_74, s156_75, s156_77, s156_79, s156_81, s156_82, s156_83, s156_84, s156_87, s156_90, s156_91, s156_92, s156_93, s156_95, s156_97, s156_99, s156_100, s156_101, s156_102, s156_105, s156_108, s156_109, s156_110, s156_111, s156_113, s156_115, s156_117, s156_119, s156_120, s156_121, s156_124, s156_127, s156_129, s156_130, s156_131, s156_133, s156_135, s156_137, s156_139, s156_140, s156_141, s156_144, s156_147, s156_149, s156_150, s156_151, s156_153, s156_155, s156_157, s156_159, s156_160, s156_161, s156_164, s156_167, s156_169, s156_170, s156_171, s156_173, s156_175, s156_177, s156_178, s156_179, s156_180, s156_183, s156_186, s156_188, s156_189, s156_190, s156_192, s156_194, s156_196, s156_198, s156_199, s156_200, s156_203, s156_206, s156_208, s156_211, s156_212, i0, i1, i2, i3, i4, i5, i6, i7, i8, List.getElem?_cons_zero, List.getElem?_cons_succ, Option.bind_some, Option.toList_some, Option.toList_none, List.cons_append, List.nil_append, not_true_eq_false, if_false, if_true, if_neg n1]
    rfl
  rw [if_neg c8] at i8
  rw [if_neg c8]
  by_cases c9 : wd S p = txN 31
  · rw [if_pos c9] at i9
    rw [if_pos c9, if_pos (by decide)]
    simp (disch := first | assumption | decide) only [s156_0, s156_1, s156_3, s156_5, s156_7, s156_8, s156_9, s156_10, s156_13, s156_16, s156_17, s156_18, s156_19, s156_21, s156_23, s156_25, s156_27, s156_28, s156_29, s156_32, s156_35, s156_36, s156_37, s156_38, s156_40, s156_42, s156_44, s156_46, s156_47, s156_48, s156_51, s156_54, s156_55, s156_56, s156_57, s156_59, s156_61, s156_63, s156_64, s156_65, s156_66, s156_69, s156_72, s156_73, s156_74, s156_75, s156_77, s156_79, s156_81, s156_82, s156_83, s156_84, s156_87, s156_90, s156_91, s156_92, s156_93, s156_95, s156_97, s156_99, s156_100, s156_101, s156_102, s156_105, s156_108, s156_109, s156_110, s156_111, s156_113, s156_115, s156_117, s156_119, s156_120, s156_121, s156_124, s156_127, s156_129, s156_130, s156_131, s156_133, s156_135, s156_137, s156_139, s156_140, s156_141, s156_144, s156_147, s156_149, s156_150, s156_151, s156_153, s156_155, s156_157, s156_159, s156_160, s156_161, s156_164, s156_167, s156_169, s156_170, s156_171, s156_173, s156_175, s156_177, s156_178, s156_179, s156_180, s156_183, s156_186, s156_188, s156_189, s156_190, s156_192, s156_194, s156_196, s156_198, s156_199, s156_200, s156_203, s156_206, s156_208, s156_211, s156_212, i0, i1, i2, i3, i4, i5, i6, i7, i8, i9, List.getElem?_cons_zero, List.getElem?_cons_succ, Option.bind_some, Option.toList_some, Option.toList_none, List.cons_append, List.nil_append, not_true_eq_false, if_false, if_true, if_neg n1]
    rfl
  rw [if_neg c9] at i9
  rw [if_neg c9]
  by_cases c10 : wd S p = txN 32
  · rw [if_pos c10] at i10
    rw [if_pos c10, if_pos (by decide)]
    simp (disch := first | assumption | decide) only [s156_0, s156_1, s156_3, s156_5, s156_7, s156_8, s156_9, s156_10, s156_13, s156_16, s156_17, s156_18, s156_19, s156_21, s156_23, s156_25, s156_27, s156_28, s156_29, s156_32, s156_35, s156_36, s156_37, s156_38, s156_40, s156_42, s156_44, s156_46, s156_47, s156_48, s156_51, s156_54, s156_55, s156_56, s156_57, s156_59, s156_61, s156_63, s156_64, s156_65, s156_66, s156_69, s156_72, s156_73, s156_74, s156_75, s156_77, s156_79, s156_81, s156_82, s156_83, s156_84, s156_87, s156_90, s156_91, s156_92, s156_93, s156_95, s156_97, s156_99, s156_100, s156_101, s156_102, s156_105, s156_108, s156_109, s156_110, s156_111, s156_113, s156_115, s156_117, s156_119, s156_120, s156_121, s156_124, s156_127, s156_129, s156_130, s156_131, s156_133, s156_135, s156_137, s156_139, s156_140, s156_141, s156_144, s156_147, s156_149, s156_150, s156_151, s156_153, s156_155, s156_157, s156_159, s156_160, s156_161, s156_164, s156_167, s156_169, s156_170, s156_171, s156_173, s156_175, s156_177, s156_178, s156_179, s156_180, s156_183, s156_186, s156_188, s156_189, s156_190, s156_192, s156_194, s156_196, s156_198, s156_199, s156_200, s156_203, s156_206, s156_208, s156_211, s156_212, i0, i1, i2, i3, i4, i5, i6, i7, i8, i9, i10, List.getElem?_cons_zero, List.getElem?_cons_succ, Option.bind_some, Option.toList_some, Option.toList_none, List.cons_append, List.nil_append, not_true_eq_false, if_false, if_true, if_neg n1]
    rfl
  rw [if_neg c10] at i10
  rw [if_neg c10]
  rw [if_neg (by decide)]
  simp (disch := first | assumption | decide) only [s156_0, s156_1, s156_3, s156_5, s156_7, s156_8, s156_9, s156_10, s156_13, s156_16, s156_17, s156_18, s156_19, s156_21, s156_23, s156_25, s156_27, s156_28, s156_29, s156_32, s156_35, s156_36, s156_37, s156_38, s156_40, s156_42, s156_44, s156_46, s156_47, s156_48, s156_51, s156_54, s156_55, s156_56, s156_57, s156_59, s156_61, s156_63, s156_64, s156_65, s156_66, s156_69, s156_72, s156_73, s156_74, s156_75, s156_77, s156_79, s156_81, s156_82, s156_83, s156_84, s156_87, s156_90, s156_91, s156_92, s156_93, s156_95, s156_97, s156_99, s156_100, s156_101, s156_102, s156_105, s156_108, s156_109, s156_110, s156_111, s156_113, s156_115, s156_117, s156_119, s156_120, s156_121, s156_124, s156_127, s156_129, s156_130, s156_131, s156_133, s156_135, s156_137, s156_139, s156_140, s156_141, s156_144, s156_147, s156_149, s156_150, s156_151, s156_153, s156_155, s156_157, s156_159, s156_160, s156_161, s156_164, s156_167, s156_169, s156_170, s156_171, s156_173, s156_175, s156_177, s156_178, s156_179, s156_180, s156_183, s156_186, s156_188, s156_189, s156_190, s156_192, s156_194, s156_196, s156_198, s156_199, s156_200, s156_203, s156_206, s156_208, s156_211, s156_212, i0, i1, i2, i3, i4, i5, i6, i7, i8, i9, i10, List.getElem?_cons_zero, List.getElem?_cons_succ, Option.bind_some, Option.toList_some, Option.toList_none, List.cons_append, List.nil_append, not_true_eq_false, if_false, if_true]
theorem y_rowLoop0 {t pl : Nat} (K : RS w0 A w S pl fr (nI t) v M b q ca ls ns) (E : isSr w0 S) (ht : t ≤ S.length) : ∀ (k i : Nat), i + k = t → ex_go X 159 42 [(0, .ref 32), (1, .int 0), (2, .int (nI i))] [] w = some (some (.int 0), w) := by
  have hl := lt_len E
  intro k
  induction k with
  | zero =>
    intro i hi
    have e : nI t ≤ nI i := nI_le (by omega) (by omega)
    simp (disch := first | assumption | decide) only [s159_42, s159_43, s159_44, s159_47, s159_88, s159_89, rs_g K, List.getElem?_cons_zero, List.getElem?_cons_succ, Option.bind_some, Option.toList_some, Option.toList_none, List.cons_append, List.nil_append, not_true_eq_false, if_false, if_true, if_pos e]
  | succ k ih =>
    intro i hi
    have e : ¬ nI t ≤ nI i := nI_ge (by omega) (by omega)
    rw [s159_42]
    simp (disch := first | assumption | decide) only [s159_43, s159_44, s159_47, s159_50, s159_51, s159_54, s159_55, s159_58, s159_59, s159_60, s159_62, s159_65, s159_66, s159_69, s159_70, s159_71, s159_73, s159_76, s159_77, s159_80, s159_81, s159_82, s159_85, rs_g K, List.getElem?_cons_zero, List.getElem?_cons_succ, Option.bind_some, Option.toList_some, Option.toList_none, List.cons_append, List.nil_append, not_true_eq_false, if_false, if_true, if_neg e, nI_1]
    exact ih (i + 1) (by omega)
theorem y_rowLoop {t pl : Nat} (K : RS w0 A w S pl fr (nI t) v M b q ca ls ns) (E : isSr w0 S) (ht : t ≤ S.length) : ∀ (k i N : Nat), i + k = t → ex_go X 159 42 [(0, .ref 32), (1, .int 1), (2, .int (nI i))] [] w = some (some (.int (if nuV S k i N = none then 0 else 1)), w) := by
  have hl := lt_len E
  have n1 : ¬ (1 : Int32) = 0 := by decide
  intro k
  induction k with
  | zero =>
    intro i N hi
    have e : nI t ≤ nI i := nI_le (by omega) (by omega)
    rw [nuV, if_neg (fun z => by cases z)]
    simp (disch := first | assumption | decide) only [s159_42, s159_43, s159_44, s159_47, s159_88, s159_89, rs_g K, List.getElem?_cons_zero, List.getElem?_cons_succ, Option.bind_some, Option.toList_some, Option.toList_none, List.cons_append, List.nil_append, not_true_eq_false, if_false, if_true, if_pos e]
  | succ k ih =>
    intro i N hi
    have e : ¬ nI t ≤ nI i := nI_ge (by omega) (by omega)
    have al := rs_al K E (i := i) (by omega)
    have hb := lt_b E i
    rw [nuV, s159_42]
    by_cases c : 48 ≤ S.getD i 0 ∧ S.getD i 0 ≤ 57
    · have g1 : ¬ nI (S.getD i 0) < 48 := nI_nlt (b := 48) c.1 (by omega)
      have g2 : ¬ 57 < nI (S.getD i 0) := nI_nlt (a := 57) c.2 (by decide)
      rw [if_pos c]
      simp (disch := first | assumption | decide) only [s159_43, s159_44, s159_47, s159_50, s159_51, s159_54, s159_55, s159_58, s159_59, s159_60, s159_62, s159_65, s159_66, s159_69, s159_70, s159_71, s159_73, s159_76, s159_77, s159_80, s159_81, s159_82, s159_85, rs_g K, List.getElem?_cons_zero, List.getElem?_cons_succ, Option.bind_some, Option.toList_some, Option.toList_none, List.cons_append, List.nil_append, not_true_eq_false, if_false, if_true, if_neg e, if_neg n1, al, if_neg g1, if_neg g2, nI_1]
      exact ih (i + 1) _ (by omega)
    · rw [if_neg c, if_pos rfl]
      have r0 := y_rowLoop0 (X := X) K E ht k (i + 1) (by omega)
      by_cases c1 : 48 ≤ S.getD i 0
      · have g1 : ¬ nI (S.getD i 0) < 48 := nI_nlt (b := 48) c1 (by omega)
        have g2 : 57 < nI (S.getD i 0) := nI_lt (a := 57) (by omega) (by omega)
        simp (disch := first | assumption | decide) only [s159_43, s159_44, s159_47, s159_50, s159_51, s159_54, s159_55, s159_58, s159_59, s159_60, s159_62, s159_65, s159_66, s159_69, s159_70, s159_71, s159_73, s159_76, s159_77, s159_80, s159_81, s159_82, s159_85, rs_g K, List.getElem?_cons_zero, List.getElem?_cons_succ, Option.bind_some, Option.toList_some, Option.toList_none, List.cons_append, List.nil_append, not_true_eq_false, if_false, if_true, if_neg e, if_neg n1, al, if_neg g1, if_pos g2, nI_1]
        exact r0
      · have g1 : nI (S.getD i 0) < 48 := nI_lt (b := 48) (by omega) (by decide)
        simp (disch := first | assumption | decide) only [s159_43, s159_44, s159_47, s159_50, s159_51, s159_54, s159_55, s159_58, s159_59, s159_60, s159_62, s159_65, s159_66, s159_69, s159_70, s159_71, s159_73, s159_76, s159_77, s159_80, s159_81, s159_82, s159_85, rs_g K, List.getElem?_cons_zero, List.getElem?_cons_succ, Option.bind_some, Option.toList_some, Option.toList_none, List.cons_append, List.nil_append, not_true_eq_false, if_false, if_true, if_neg e, if_neg n1, al, if_pos g1, nI_1]
        exact r0
/-- are these letters a number that is too long? -/
theorem y_isRow {pl : Nat} (K : RS w0 A w S pl (nI (wF S p)) (nI (wT S p)) v M b q ca ls ns) (E : isSr w0 S) (hp : p ≤ S.length) (hw : wF S p < wT S p) (hn : ¬ ∃ N, numW S (wF S p + 1) (wT S p) = some N ∧ N ≤ 2 ^ 63) : ex_call X 159 [.ref 32] w = some (some (.int (if numW S (wF S p + 1) (wT S p) = none then 0 else 1)), w) := by
  have hl := lt_len E
  have wb := w_b hp
  have sb : nI (wT S p) - nI (wF S p) = nI (wT S p - wF S p) := pk_sub wb.2.1
  show ex_go X 159 0 [(0, .ref 32)] [] w = _
  by_cases c1 : wF S p + 1 < wT S p
  · have e1 : ¬ nI (wT S p - wF S p) ≤ 1 := nI_ge (a := 1) (by omega) (by omega)
    have al := rs_al K E (i := wF S p + 1) (by omega)
    have hb := lt_b E (wF S p + 1)
    by_cases c2 : S.getD (wF S p + 1) 0 = 48
    · have e2 : nI (S.getD (wF S p + 1) 0) = 48 := by rw [c2]; rfl
      have en : numW S (wF S p + 1) (wT S p) = none := by
        by_cases c3 : wF S p + 1 + 1 = wT S p
        · exfalso
          apply hn
          refine ⟨0, ?_, by decide⟩
          unfold numW
          rw [if_pos ⟨c1, Or.inr c3⟩, show wT S p - (wF S p + 1) = 1 by omega, nuV, c2]
          rfl
        · exact if_neg (fun z => by rcases z.2 with y | y; exact y c2; exact c3 y)
      have r0 := y_rowLoop0 (X := X) K E wb.2.2.1 (wT S p - (wF S p + 1)) (wF S p + 1) (by omega)
      rw [en, if_pos rfl]
      simp (disch := first | assumption | decide) only [s159_0, s159_1, s159_4, s159_5, s159_8, s159_9, s159_10, s159_13, s159_14, s159_17, s159_18, s159_21, s159_22, s159_23, s159_24, s159_26, s159_29, s159_30, s159_33, s159_34, s159_35, s159_36, s159_39, s159_40, s159_41, rs_g K, List.getElem?_cons_zero, List.getElem?_cons_succ, Option.bind_some, Option.toList_some, Option.toList_none, List.cons_append, List.nil_append, not_true_eq_false, if_false, if_true, sb, if_neg e1, nI_1, al, if_pos e2]
      exact r0
    · have e2 : ¬ nI (S.getD (wF S p + 1) 0) = 48 := fun z => c2 ((nI_eq (b := 48) (by omega) (by decide)).mp z)
      have en : numW S (wF S p + 1) (wT S p) = nuV S (wT S p - (wF S p + 1)) (wF S p + 1) 0 := if_pos ⟨c1, Or.inl c2⟩
      have r1 := y_rowLoop (X := X) K E wb.2.2.1 (wT S p - (wF S p + 1)) (wF S p + 1) 0 (by omega)
      rw [en]
      simp (disch := first | assumption | decide) only [s159_0, s159_1, s159_4, s159_5, s159_8, s159_9, s159_10, s159_13, s159_14, s159_17, s159_18, s159_21, s159_22, s159_23, s159_24, s159_26, s159_29, s159_30, s159_33, s159_34, s159_35, s159_36, s159_39, s159_40, s159_41, rs_g K, List.getElem?_cons_zero, List.getElem?_cons_succ, Option.bind_some, Option.toList_some, Option.toList_none, List.cons_append, List.nil_append, not_true_eq_false, if_false, if_true, sb, if_neg e1, nI_1, al, if_neg e2]
      exact r1
  · have e1 : nI (wT S p - wF S p) ≤ 1 := nI_le (b := 1) (by omega) (by decide)
    have en : numW S (wF S p + 1) (wT S p) = none := if_neg (fun z => c1 z.1)
    have r0 := y_rowLoop0 (X := X) K E wb.2.2.1 (wT S p - (wF S p + 1)) (wF S p + 1) (by omega)
    rw [en, if_pos rfl]
    simp (disch := first | assumption | decide) only [s159_0, s159_1, s159_4, s159_5, s159_8, s159_9, s159_10, s159_13, s159_14, s159_17, s159_18, s159_21, s159_22, s159_23, s159_24, s159_26, s159_29, s159_30, s159_33, s159_34, s159_35, s159_36, s159_39, s159_40, s159_41, rs_g K, List.getElem?_cons_zero, List.getElem?_cons_succ, Option.bind_some, Option.toList_some, Option.toList_none, List.cons_append, List.nil_append, not_true_eq_false, if_false, if_true, sb, if_pos e1, nI_1]
    exact r0
theorem rl_60 (K : RS w0 A w S p fr to v M b q ca ls ns) : ls.length ≤ 100 ∧ ns.length ≤ 60 := by
  obtain ⟨_, _, _, a, b, c, d, h2, h3, h4, h5, h6, h7, h8, h9, h10, h11, h12, h13⟩ := K
  have x := h4.1
  have y := h7.1
  rw [List.length_map] at y
  omega
theorem nm1_v {N : Nat} (h : N ≤ 1000) {o c : Nat} : (-(ng N)).toInt32 = nI (nm1 (N, o, c)) := by
  unfold nm1
  rw [if_pos h]
  apply Int32.toInt_inj.mp
  have t := ngN_toInt (N := N) (by omega)
  rw [Jvm.Kit.i32_of_i64 (by rw [t]; omega) (by rw [t]; omega), t, nI_toInt (by omega)]
/-- one name more -/
theorem y_addName {N o c : Nat} {x : Int32} (K : RS w0 A w S p fr to v M b q ca ls ns) (h60 : ns.length < 60) (hx : x = nI (nm1 (N, o, c))) : ∃ w2, (ex_as w 43 0 (nI ns.length) (nI c)).bind (fun w1 => (ex_as w1 44 0 (nI ns.length) (nI o)).bind (fun w1 => (ex_as w1 45 0 (nI ns.length) x).bind (fun w1 => (ex_pf w1 32 8 28 (.int (nI (ns.length + 1)))).bind (fun w1 => ex_pf w1 32 8 19 (.long 0))))) = some w2 ∧ RS w0 A w2 S p fr to 0 M b q ca ls (ns ++ [(N, o, c)]) := by
  subst hx
  obtain ⟨⟨k1, k2⟩, k3, ⟨ms, m1, m2, m3⟩, a, bb, cc, d, h2, h3, h4, h5, h6, h7, h8, h9, h10, h11, h12, h13⟩ := K
  have m1' : (ns.map (fun n : Nat × Nat × Nat => n.2.2)).length = ns.length := List.length_map _
  have m2' : (ns.map (fun n : Nat × Nat × Nat => n.2.1)).length = ns.length := List.length_map _
  have m3' : (ns.map nm1).length = ns.length := List.length_map _
  have as1 := ex_as_i (kd := 0) (n := ns.length) (x := nI c) h5 (by omega) (by omega)
  have as2 := ex_as_i (kd := 0) (n := ns.length) (x := nI o) (w := w.set 43 (.inr (0, bb.set ns.length (nI c)))) (ex_set_o (by decide) h8) (by omega) (by omega)
  have as3 := ex_as_i (kd := 0) (n := ns.length) (x := nI (nm1 (N, o, c))) (w := (w.set 43 (.inr (0, bb.set ns.length (nI c)))).set 44 (.inr (0, cc.set ns.length (nI o)))) (ex_set_o (by decide) (ex_set_o (by decide) h11)) (by omega) (by omega)
  have t3 : (((w.set 43 (.inr (0, bb.set ns.length (nI c)))).set 44 (.inr (0, cc.set ns.length (nI o)))).set 45 (.inr (0, d.set ns.length (nI (nm1 (N, o, c))))))[32]? = some (rd A (nI M.length) (nI S.length) (nI p) fr to (-1) (nI b) (nI q) (nI ca) (nI ls.length) (nI ns.length) v) := ex_set_o (by decide) (ex_set_o (by decide) (ex_set_o (by decide) k3))
  have p1 : ex_pf (((w.set 43 (.inr (0, bb.set ns.length (nI c)))).set 44 (.inr (0, cc.set ns.length (nI o)))).set 45 (.inr (0, d.set ns.length (nI (nm1 (N, o, c)))))) 32 8 28 (.int (nI (ns.length + 1))) = some ((((w.set 43 (.inr (0, bb.set ns.length (nI c)))).set 44 (.inr (0, cc.set ns.length (nI o)))).set 45 (.inr (0, d.set ns.length (nI (nm1 (N, o, c)))))).set 32 (rd A (nI M.length) (nI S.length) (nI p) fr to (-1) (nI b) (nI q) (nI ca) (nI ls.length) (nI (ns.length + 1)) v)) := ex_pf_i t3 (Nat.le_of_ble_eq_true rfl)
  have p2 : ex_pf ((((w.set 43 (.inr (0, bb.set ns.length (nI c)))).set 44 (.inr (0, cc.set ns.length (nI o)))).set 45 (.inr (0, d.set ns.length (nI (nm1 (N, o, c)))))).set 32 (rd A (nI M.length) (nI S.length) (nI p) fr to (-1) (nI b) (nI q) (nI ca) (nI ls.length) (nI (ns.length + 1)) v)) 32 8 19 (.long 0) = some ((((w.set 43 (.inr (0, bb.set ns.length (nI c)))).set 44 (.inr (0, cc.set ns.length (nI o)))).set 45 (.inr (0, d.set ns.length (nI (nm1 (N, o, c)))))).set 32 (rd A (nI M.length) (nI S.length) (nI p) fr to (-1) (nI b) (nI q) (nI ca) (nI ls.length) (nI (ns.length + 1)) 0)) := by
    have := ex_pf_i (k := 19) (v := .long 0) (ex_set_s (c := rd A (nI M.length) (nI S.length) (nI p) fr to (-1) (nI b) (nI q) (nI ca) (nI ls.length) (nI (ns.length + 1)) v) t3) (Nat.le_of_ble_eq_true rfl)
    rw [List.set_set] at this
    exact this
  refine ⟨(((w.set 43 (.inr (0, bb.set ns.length (nI c)))).set 44 (.inr (0, cc.set ns.length (nI o)))).set 45 (.inr (0, d.set ns.length (nI (nm1 (N, o, c)))))).set 32 (rd A (nI M.length) (nI S.length) (nI p) fr to (-1) (nI b) (nI q) (nI ca) (nI ls.length) (nI (ns.length + 1)) 0), ?_, ⟨⟨by rw [List.length_set, List.length_set, List.length_set, List.length_set]; exact k1, fun j hj => by rw [List.getElem?_set_ne (by omega), List.getElem?_set_ne (by omega), List.getElem?_set_ne (by omega), List.getElem?_set_ne (by omega)]; exact k2 j hj⟩, ?_, ⟨ms, ex_set_o (by decide) (ex_set_o (by decide) (ex_set_o (by decide) (ex_set_o (by decide) m1))), m2, m3⟩, a, bb.set ns.length (nI c), cc.set ns.length (nI o), d.set ns.length (nI (nm1 (N, o, c))), ?_, h3, h4, ?_, by rw [List.length_set]; exact h6, ?_, ?_, by rw [List.length_set]; exact h9, ?_, ?_, by rw [List.length_set]; exact h12, ?_⟩⟩
  · rw [as1, Option.bind_some, as2, Option.bind_some, as3, Option.bind_some, p1, Option.bind_some, p2]
  · rw [List.length_append, List.length_singleton]
    exact ex_set_s t3
  · exact ex_set_o (by decide) (ex_set_o (by decide) (ex_set_o (by decide) (ex_set_o (by decide) h2)))
  · exact ex_set_o (by decide) (ex_set_o (by decide) (ex_set_o (by decide) (ex_set_s h5)))
  · have := holds_app (c := c) h7 (by omega)
    rw [m1'] at this
    rw [List.map_append]
    exact this
  · exact ex_set_o (by decide) (ex_set_o (by decide) (ex_set_s (ex_set_o (by decide) h8)))
  · have := holds_app (c := o) h10 (by omega)
    rw [m2'] at this
    rw [List.map_append]
    exact this
  · exact ex_set_o (by decide) (ex_set_s (ex_set_o (by decide) (ex_set_o (by decide) h11)))
  · have := holds_app (c := nm1 (N, o, c)) h13 (by omega)
    rw [m3'] at this
    rw [List.map_append]
    exact this
theorem byt1 (v : Int64) : (v >>> ((8 : Int32).toInt64 &&& 63)).toInt32 &&& 255 = nI (byt v 1) := by
  have := byt_and v 1
  have e : (8 : Int32) * nI 1 = 8 := by decide
  rw [e] at this
  exact this
/-- two bytes more -/
theorem y_addTwo (K : RS w0 A w S p fr to v M b q ca ls ns) (hM : M.length + 2 ≤ 140) : ∃ w2, ex_go X 158 267 [(0, .ref 32)] [] w = some (some (.int 1), w2) ∧ RS w0 A w2 S p fr to v (M ++ lowBy v 2) b q ca ls ns := by
  have rc := rs_rc K
  obtain ⟨w1, a1, K1⟩ := y_add (X := X) (c := byt v 1) K (by omega) (byt1 v)
  have rc1 := rs_rc K1
  obtain ⟨w2, a2, K2⟩ := y_add (X := X) (c := byt v 0) K1 (by rw [List.length_append, List.length_singleton]; omega) (byt0 v)
  refine ⟨w2, ?_, by rw [List.append_assoc] at K2; exact K2⟩
  simp (disch := first | assumption | decide) only [s158_267, s158_268, s158_269, s158_272, s158_274, s158_275, s158_276, s158_279, s158_280, s158_281, s158_284, s158_285, s158_288, s158_289, rs_g K, List.getElem?_cons_zero, List.getElem?_cons_succ, Option.bind_some, Option.toList_some, Option.toList_none, List.cons_append, List.nil_append, not_true_eq_false, if_false, if_true, a1, rs_g K1, a2]
end REF6
