/-! the class's words: step, open -/
section WORDS2
variable {X : Option (List Int32)} {w : ex_W} {L : Nat} {S : List Nat} {f t : Nat} {sg hn bl : Int32} {ls v : Int64}
theorem w_numeral (hL : L < 1000) (hne : L ≠ 8) (h8 : w[8]? = some (wo L (nI S.length) (nI f) (nI t) sg hn bl ls v)) (T : isLt w L S) (hft : f ≤ t) (ht : t ≤ S.length) (hz : ¬ f < t → S.getD f 0 = 0) : ∃ hn2 bl2 ls2, ex_call X 88 [.ref 8] w = some (none, w.set 8 (wo L (nI S.length) (nI f) (nI t) (nI (sgS S f)) hn2 bl2 ls2 v)) ∧ nRes (numW S (nuA S f) t) hn2 bl2 ls2 := by
  have hl := lt_len T
  have hb := lt_b T f
  have lo : ∀ c : ex_C, isLt (w.set 8 c) L S := fun c => lt_o T (by rw [List.getElem?_set_ne (Ne.symm hne)])
  have st0 : ex_call X 88 [.ref 8] w = ex_go X 88 24 [(0, .ref 8)] [.int (nI (S.getD f 0))] w := by
    show ex_go X 88 0 [(0, .ref 8)] [] w = _
    by_cases c : f < t
    · have e : ¬ nI t ≤ nI f := nI_ge c (by omega)
      have al := lt_al T (i := f) (by omega)
      simp (disch := first | assumption | decide) only [s88_0, s88_1, s88_4, s88_5, s88_8, s88_11, s88_12, s88_15, s88_16, s88_19, s88_20, ex_gf_i h8, List.getElem?_cons_zero, List.getElem?_cons_succ, Option.bind_some, Option.toList_some, Option.toList_none, List.cons_append, List.nil_append, not_true_eq_false, if_false, if_true, if_neg e, al]
    · have e : nI t ≤ nI f := nI_le (by omega) (by omega)
      have e0 : nI (S.getD f 0) = 0 := by rw [hz c]; rfl
      simp (disch := first | assumption | decide) only [s88_0, s88_1, s88_4, s88_5, s88_8, s88_11, s88_12, s88_15, s88_16, s88_19, s88_20, s88_23, ex_gf_i h8, List.getElem?_cons_zero, List.getElem?_cons_succ, Option.bind_some, Option.toList_some, Option.toList_none, List.cons_append, List.nil_append, not_true_eq_false, if_false, if_true, if_pos e, e0]
  have st1 : ex_go X 88 24 [(0, .ref 8)] [.int (nI (S.getD f 0))] w = ex_go X 88 52 [(0, .ref 8)] [] (w.set 8 (wo L (nI S.length) (nI f) (nI t) (nI (sgS S f)) hn bl ls v)) := by
    unfold sgS
    by_cases c1 : S.getD f 0 = 43
    · rw [c1, if_pos (Or.inl rfl)]
      simp (disch := first | assumption | decide) only [s88_24, s88_25, s88_26, s88_27, s88_29, s88_32, s88_33, s88_35, s88_38, s88_39, s88_41, s88_44, s88_45, s88_48, s88_49, if_pos, if_neg, wp4 h8, List.getElem?_cons_zero, List.getElem?_cons_succ, Option.bind_some, Option.toList_some, Option.toList_none, List.cons_append, List.nil_append, not_true_eq_false, if_false, if_true]
    · have e1 : ¬ nI (S.getD f 0) = 43 := fun z => c1 ((nI_eq (b := 43) (by omega) (by decide)).mp z)
      by_cases c2 : S.getD f 0 = 45
      · rw [c2, if_pos (Or.inr (Or.inl rfl))]
        simp (disch := first | assumption | decide) only [s88_24, s88_25, s88_26, s88_27, s88_29, s88_32, s88_33, s88_35, s88_38, s88_39, s88_41, s88_44, s88_45, s88_48, s88_49, if_pos, if_neg, wp4 h8, List.getElem?_cons_zero, List.getElem?_cons_succ, Option.bind_some, Option.toList_some, Option.toList_none, List.cons_append, List.nil_append, not_true_eq_false, if_false, if_true]
      · have e2 : ¬ nI (S.getD f 0) = 45 := fun z => c2 ((nI_eq (b := 45) (by omega) (by decide)).mp z)
        by_cases c3 : S.getD f 0 = 64
        · rw [c3, if_pos (Or.inr (Or.inr rfl))]
          simp (disch := first | assumption | decide) only [s88_24, s88_25, s88_26, s88_27, s88_29, s88_32, s88_33, s88_35, s88_38, s88_39, s88_41, s88_44, s88_45, s88_48, s88_49, if_pos, if_neg, wp4 h8, List.getElem?_cons_zero, List.getElem?_cons_succ, Option.bind_some, Option.toList_some, Option.toList_none, List.cons_append, List.nil_append, not_true_eq_false, if_false, if_true]
        · have e3 : ¬ nI (S.getD f 0) = 64 := fun z => c3 ((nI_eq (b := 64) (by omega) (by decide)).mp z)
          rw [if_neg (fun z => by rcases z with z | z | z; exact c1 z; exact c2 z; exact c3 z)]
          simp (disch := first | assumption | decide) only [s88_24, s88_25, s88_26, s88_27, s88_29, s88_32, s88_33, s88_35, s88_38, s88_39, s88_41, s88_44, s88_45, s88_48, s88_49, if_neg e1, if_neg e2, if_pos e3, wp4 h8, List.getElem?_cons_zero, List.getElem?_cons_succ, Option.bind_some, Option.toList_some, Option.toList_none, List.cons_append, List.nil_append, not_true_eq_false, if_false, if_true]
          rfl
  have sgb : sgS S f < 256 := by unfold sgS; split <;> omega
  have s4 : (w.set 8 (wo L (nI S.length) (nI f) (nI t) (nI (sgS S f)) hn bl ls v))[8]? = some (wo L (nI S.length) (nI f) (nI t) (nI (sgS S f)) hn bl ls v) := ex_set_s h8
  have st2 : ex_go X 88 52 [(0, .ref 8)] [] (w.set 8 (wo L (nI S.length) (nI f) (nI t) (nI (sgS S f)) hn bl ls v)) = ex_go X 88 73 [(0, .ref 8), (2, .int (nI (nuA S f)))] [] (w.set 8 (wo L (nI S.length) (nI f) (nI t) (nI (sgS S f)) hn bl ls v)) := by
    unfold nuA
    by_cases c : sgS S f = 0
    · have e : ¬ ¬ nI (sgS S f) = 0 := by rw [c]; decide
      rw [if_pos c]
      simp (disch := first | assumption | decide) only [s88_52, s88_53, s88_56, s88_59, s88_60, s88_63, s88_66, s88_67, s88_70, s88_71, s88_72, ex_gf_i s4, List.getElem?_cons_zero, List.getElem?_cons_succ, Option.bind_some, Option.toList_some, Option.toList_none, List.cons_append, List.nil_append, not_true_eq_false, if_false, if_true, if_neg e]
    · have e : ¬ nI (sgS S f) = 0 := nI_ne0 (by omega) (by omega)
      rw [if_neg c]
      simp (disch := first | assumption | decide) only [s88_52, s88_53, s88_56, s88_59, s88_60, s88_63, s88_66, s88_67, s88_70, s88_71, s88_72, ex_gf_i s4, List.getElem?_cons_zero, List.getElem?_cons_succ, Option.bind_some, Option.toList_some, Option.toList_none, List.cons_append, List.nil_append, not_true_eq_false, if_false, if_true, if_pos e, nI_1]
  have hA : f ≤ nuA S f ∧ nuA S f ≤ t + 1 := by
    unfold nuA
    split
    · omega
    · omega
  have tail : ∀ h0 : Int32, (h0 = 0 ∨ h0 = 1) → ex_go X 88 108 [(0, .ref 8), (2, .int (nI (nuA S f)))] [.int h0, .ref 8] (w.set 8 (wo L (nI S.length) (nI f) (nI t) (nI (sgS S f)) hn bl ls v)) = ex_go X 88 123 [(0, .ref 8), (3, .int (nI (nuA S f)))] [] (w.set 8 (wo L (nI S.length) (nI f) (nI t) (nI (sgS S f)) h0 0 0 v)) := by
    intro h0 hh
    simp (disch := first | assumption | decide) only [s88_108, s88_111, s88_112, s88_113, s88_116, s88_117, s88_118, s88_121, s88_122, wq5 h8, wq6 h8, wq7 h8, List.getElem?_cons_zero, List.getElem?_cons_succ, Option.bind_some, Option.toList_some, Option.toList_none, List.cons_append, List.nil_append, not_true_eq_false, if_false, if_true]
  rw [st0, st1, st2]
  unfold numW
  by_cases c : nuA S f < t ∧ (¬ S.getD (nuA S f) 0 = 48 ∨ nuA S f + 1 = t)
  · have e : ¬ nI t ≤ nI (nuA S f) := nI_ge c.1 (by omega)
    have al := lt_al (lo (wo L (nI S.length) (nI f) (nI t) (nI (sgS S f)) hn bl ls v)) (i := nuA S f) (by omega)
    have hb2 := lt_b T (nuA S f)
    have st3 : ex_go X 88 73 [(0, .ref 8), (2, .int (nI (nuA S f)))] [] (w.set 8 (wo L (nI S.length) (nI f) (nI t) (nI (sgS S f)) hn bl ls v)) = ex_go X 88 108 [(0, .ref 8), (2, .int (nI (nuA S f)))] [.int 1, .ref 8] (w.set 8 (wo L (nI S.length) (nI f) (nI t) (nI (sgS S f)) hn bl ls v)) := by
      by_cases c2 : S.getD (nuA S f) 0 = 48
      · have e1 : ¬ ¬ nI (S.getD (nuA S f) 0) = 48 := by rw [c2]; decide
        have e2 : ¬ ¬ nI (nuA S f + 1) = nI t := by
          rcases c.2 with z | z
          · exact absurd c2 z
          · rw [z]; exact fun y => y rfl
        simp (disch := first | assumption | decide) only [s88_73, s88_74, s88_75, s88_76, s88_79, s88_82, s88_83, s88_86, s88_87, s88_88, s88_90, s88_93, s88_94, s88_95, s88_96, s88_97, s88_100, s88_103, s88_104, ex_gf_i s4, List.getElem?_cons_zero, List.getElem?_cons_succ, Option.bind_some, Option.toList_some, Option.toList_none, List.cons_append, List.nil_append, not_true_eq_false, if_false, if_true, if_neg e, al, if_neg e1, nI_1, if_neg e2]
      · have e1 : ¬ nI (S.getD (nuA S f) 0) = 48 := fun z => c2 ((nI_eq (b := 48) (by omega) (by decide)).mp z)
        simp (disch := first | assumption | decide) only [s88_73, s88_74, s88_75, s88_76, s88_79, s88_82, s88_83, s88_86, s88_87, s88_88, s88_90, s88_93, s88_94, s88_95, s88_96, s88_97, s88_100, s88_103, s88_104, ex_gf_i s4, List.getElem?_cons_zero, List.getElem?_cons_succ, Option.bind_some, Option.toList_some, Option.toList_none, List.cons_append, List.nil_append, not_true_eq_false, if_false, if_true, if_neg e, al, if_pos e1]
    rw [st3, tail 1 (Or.inr rfl), if_pos c]
    obtain ⟨hn2, bl2, ls2, a1, a2⟩ := w_numLoop (X := X) (f := f) (t := t) (sg := nI (sgS S f)) (v := v) hL hne (t - nuA S f) (nuA S f) 0 0 0 _ (by omega) ht (ex_set_s h8) (lo _) ⟨fun _ => ⟨rfl, rfl⟩, fun z => by omega⟩
    rw [List.set_set] at a1
    exact ⟨hn2, bl2, ls2, a1, a2⟩
  · have st3 : ex_go X 88 73 [(0, .ref 8), (2, .int (nI (nuA S f)))] [] (w.set 8 (wo L (nI S.length) (nI f) (nI t) (nI (sgS S f)) hn bl ls v)) = ex_go X 88 108 [(0, .ref 8), (2, .int (nI (nuA S f)))] [.int 0, .ref 8] (w.set 8 (wo L (nI S.length) (nI f) (nI t) (nI (sgS S f)) hn bl ls v)) := by
      by_cases c1 : nuA S f < t
      · have e : ¬ nI t ≤ nI (nuA S f) := nI_ge c1 (by omega)
        have al := lt_al (lo (wo L (nI S.length) (nI f) (nI t) (nI (sgS S f)) hn bl ls v)) (i := nuA S f) (by omega)
        have c2 : S.getD (nuA S f) 0 = 48 := by
          by_cases z : S.getD (nuA S f) 0 = 48
          · exact z
          · exact absurd ⟨c1, Or.inl z⟩ c
        have c3 : ¬ nuA S f + 1 = t := fun z => c ⟨c1, Or.inr z⟩
        have e1 : ¬ ¬ nI (S.getD (nuA S f) 0) = 48 := by rw [c2]; decide
        have e2 : ¬ nI (nuA S f + 1) = nI t := fun z => c3 ((nI_eq (by omega) (by omega)).mp z)
        simp (disch := first | assumption | decide) only [s88_73, s88_74, s88_75, s88_76, s88_79, s88_82, s88_83, s88_86, s88_87, s88_88, s88_90, s88_93, s88_94, s88_95, s88_96, s88_97, s88_100, s88_103, s88_104, s88_107, ex_gf_i s4, List.getElem?_cons_zero, List.getElem?_cons_succ, Option.bind_some, Option.toList_some, Option.toList_none, List.cons_append, List.nil_append, not_true_eq_false, if_false, if_true, if_neg e, al, if_neg e1, nI_1, if_pos e2]
      · have e : nI t ≤ nI (nuA S f) := nI_le (by omega) (by omega)
        simp (disch := first | assumption | decide) only [s88_73, s88_74, s88_75, s88_76, s88_79, s88_82, s88_83, s88_86, s88_87, s88_88, s88_90, s88_93, s88_94, s88_95, s88_96, s88_97, s88_100, s88_103, s88_104, s88_107, ex_gf_i s4, List.getElem?_cons_zero, List.getElem?_cons_succ, Option.bind_some, Option.toList_some, Option.toList_none, List.cons_append, List.nil_append, not_true_eq_false, if_false, if_true, if_pos e]
    have s5 : (w.set 8 (wo L (nI S.length) (nI f) (nI t) (nI (sgS S f)) 0 0 0 v))[8]? = some (wo L (nI S.length) (nI f) (nI t) (nI (sgS S f)) 0 0 0 v) := ex_set_s h8
    refine ⟨0, 0, 0, ?_, ⟨fun _ => rfl, fun N z => ?_⟩⟩
    · rw [st3, tail 0 (Or.inl rfl)]
      by_cases e : nI t ≤ nI (nuA S f)
      · simp (disch := first | assumption | decide) only [s88_123, s88_124, s88_125, s88_128, s88_131, s88_132, s88_135, s88_227, ex_gf_i s5, List.getElem?_cons_zero, List.getElem?_cons_succ, Option.bind_some, Option.toList_some, Option.toList_none, List.cons_append, List.nil_append, not_true_eq_false, if_false, if_true, if_pos e]
      · simp (disch := first | assumption | decide) only [s88_123, s88_124, s88_125, s88_128, s88_131, s88_132, s88_135, s88_227, ex_gf_i s5, List.getElem?_cons_zero, List.getElem?_cons_succ, Option.bind_some, Option.toList_some, Option.toList_none, List.cons_append, List.nil_append, not_true_eq_false, if_false, if_true, if_neg e]
    · rw [if_neg c] at z
      cases z
end WORDS2
/-- the class's words: the word behind place p is in hand -/
def isWo (w : ex_W) (L : Nat) (S : List Nat) (p : Nat) (v : Int64) : Prop := ∃ hn bl ls, w[8]? = some (wo L (nI S.length) (nI (wF S p)) (nI (wT S p)) (nI (sgS S (wF S p))) hn bl ls v) ∧ nRes (numW S (nuA S (wF S p)) (wT S p)) hn bl ls
theorem getD_end {S : List Nat} {p : Nat} (hp : p ≤ S.length) : ¬ wF S p < wT S p → S.getD (wF S p) 0 = 0 := by
  intro h
  have := w_b hp
  apply getD_out
  by_cases c : wF S p < S.length
  · exact absurd (this.2.2.2.1 c) h
  · omega
section WORDS3
variable {X : Option (List Int32)} {w : ex_W} {L : Nat} {S : List Nat} {p : Nat} {v : Int64}
theorem w_step0 {f0 sg hn bl : Int32} {ls : Int64} (hL : L < 1000) (hne : L ≠ 8) (h8 : w[8]? = some (wo L (nI S.length) f0 (nI p) sg hn bl ls v)) (T : isLt w L S) (hp : p ≤ S.length) : ∃ c : ex_C, ex_call X 86 [.ref 8] w = some (none, w.set 8 c) ∧ isWo (w.set 8 c) L S p v := by
  have hl := lt_len T
  have wb := w_b hp
  have lo : ∀ c : ex_C, isLt (w.set 8 c) L S := fun c => lt_o T (by rw [List.getElem?_set_ne (Ne.symm hne)])
  have r8 : ∀ c : ex_C, (∃ n f t sg hn bl ls v, c = wo L n f t sg hn bl ls v) → ex_rc (w.set 8 c) 8 7 = true := by
    rintro c ⟨n, f, t, sg, hn, bl, ls, v, rfl⟩
    exact ex_rc_o (ex_set_s h8) (by decide) (by decide)
  have l1 := w_loopG (X := X) hL h8 T (S.length - p) p (by omega)
  have s2 : (w.set 8 (wo L (nI S.length) (nI (wF S p)) (nI p) sg hn bl ls v))[8]? = some (wo L (nI S.length) (nI (wF S p)) (nI p) sg hn bl ls v) := ex_set_s h8
  have l2 := w_loopW (X := X) hL s2 (lo _) (S.length - wF S p) (wF S p) (by omega)
  have s3 : (w.set 8 (wo L (nI S.length) (nI (wF S p)) (nI (wT S p)) sg hn bl ls v))[8]? = some (wo L (nI S.length) (nI (wF S p)) (nI (wT S p)) sg hn bl ls v) := ex_set_s h8
  obtain ⟨hn2, bl2, ls2, a1, a2⟩ := w_numeral (X := X) (f := wF S p) (t := wT S p) hL hne s3 (lo _) wb.2.1 wb.2.2.1 (getD_end hp)
  rw [List.set_set] at a1
  refine ⟨_, ?_, ⟨hn2, bl2, ls2, ex_set_s h8, a2⟩⟩
  have rr := r8 (wo L (nI S.length) (nI (wF S p)) (nI (wT S p)) sg hn bl ls v) ⟨_, _, _, _, _, _, _, _, rfl⟩
  have l1 : ex_go X 86 5 [(0, .ref 8), (1, .int (nI p))] [] w = ex_go X 86 31 [(0, .ref 8), (1, .int (nI (wF S p)))] [] w := l1
  have l2 : ex_go X 86 36 [(0, .ref 8), (1, .int (nI (wF S p)))] [] (w.set 8 (wo L (nI S.length) (nI (wF S p)) (nI p) sg hn bl ls v)) = ex_go X 86 62 [(0, .ref 8), (1, .int (nI (wT S p)))] [] (w.set 8 (wo L (nI S.length) (nI (wF S p)) (nI p) sg hn bl ls v)) := l2
  show ex_go X 86 0 [(0, .ref 8)] [] w = _
  simp (disch := first | assumption | decide) only [s86_0, s86_1, s86_4, ex_gf_i h8, List.getElem?_cons_zero, List.getElem?_cons_succ, Option.bind_some, Option.toList_some, Option.toList_none, List.cons_append, List.nil_append, not_true_eq_false, if_false, if_true]
  rw [l1]
  simp (disch := first | assumption | decide) only [s86_31, s86_32, s86_33, wp2 h8, List.getElem?_cons_zero, List.getElem?_cons_succ, Option.bind_some, Option.toList_some, Option.toList_none, List.cons_append, List.nil_append, not_true_eq_false, if_false, if_true]
  rw [l2]
  simp (disch := first | assumption | decide) only [s86_62, s86_63, s86_64, s86_67, s86_68, s86_71, wq3 h8, List.getElem?_cons_zero, List.getElem?_cons_succ, Option.bind_some, Option.toList_some, Option.toList_none, List.cons_append, List.nil_append, not_true_eq_false, if_false, if_true, a1]
/-- the word in hand is left behind -/
theorem w_step (hL : L < 1000) (hne : L ≠ 8) (W : isWo w L S p v) (T : isLt w L S) (hp : p ≤ S.length) : ∃ c : ex_C, ex_call X 86 [.ref 8] w = some (none, w.set 8 c) ∧ isWo (w.set 8 c) L S (wT S p) v := by
  obtain ⟨hn, bl, ls, h8, _⟩ := W
  exact w_step0 hL hne h8 T (w_b hp).2.2.1
theorem w_rc (W : isWo w L S p v) : ex_rc w 8 7 = true := by
  obtain ⟨hn, bl, ls, h8, _⟩ := W
  exact ex_rc_o h8 (by decide) (by decide)
theorem w_start (W : isWo w L S p v) : ex_gf w 8 7 2 = some (.int (nI (wF S p))) := by
  obtain ⟨hn, bl, ls, h8, _⟩ := W
  exact ex_gf_i h8
theorem w_value (W : isWo w L S p v) : ex_gf w 8 7 8 = some (.long v) := by
  obtain ⟨hn, bl, ls, h8, _⟩ := W
  exact ex_gf_i h8
theorem w_isThere (W : isWo w L S p v) (T : isLt w L S) (hp : p ≤ S.length) : ex_call X 92 [.ref 8] w = some (some (.int (if wF S p < wT S p then 1 else 0)), w) := by
  have hl := lt_len T
  have wb := w_b hp
  obtain ⟨hn, bl, ls, h8, _⟩ := W
  show ex_go X 92 0 [(0, .ref 8)] [] w = _
  by_cases c : wF S p < wT S p
  · have e : ¬ nI (wT S p) ≤ nI (wF S p) := nI_ge c (by omega)
    rw [if_pos c]
    simp (disch := first | assumption | decide) only [s92_0, s92_1, s92_4, s92_5, s92_8, s92_11, s92_12, s92_15, s92_16, ex_gf_i h8, List.getElem?_cons_zero, List.getElem?_cons_succ, Option.bind_some, Option.toList_some, Option.toList_none, List.cons_append, List.nil_append, not_true_eq_false, if_false, if_true, if_neg e]
  · have e : nI (wT S p) ≤ nI (wF S p) := nI_le (by omega) (by omega)
    rw [if_neg c]
    simp (disch := first | assumption | decide) only [s92_0, s92_1, s92_4, s92_5, s92_8, s92_11, s92_12, s92_15, s92_16, ex_gf_i h8, List.getElem?_cons_zero, List.getElem?_cons_succ, Option.bind_some, Option.toList_some, Option.toList_none, List.cons_append, List.nil_append, not_true_eq_false, if_false, if_true, if_pos e]
theorem w_width (W : isWo w L S p v) (hp : p ≤ S.length) : ex_call X 93 [.ref 8] w = some (some (.int (nI (wT S p - wF S p))), w) := by
  have wb := w_b hp
  obtain ⟨hn, bl, ls, h8, _⟩ := W
  have sb : nI (wT S p) - nI (wF S p) = nI (wT S p - wF S p) := pk_sub wb.2.1
  show ex_go X 93 0 [(0, .ref 8)] [] w = _
  simp (disch := first | assumption | decide) only [s93_0, s93_1, s93_4, s93_5, s93_8, s93_9, ex_gf_i h8, List.getElem?_cons_zero, List.getElem?_cons_succ, Option.bind_some, Option.toList_some, Option.toList_none, List.cons_append, List.nil_append, not_true_eq_false, if_false, if_true, sb]
/-- letter i of the word -/
def ltr (S : List Nat) (p i : Nat) : Nat := if i < wT S p - wF S p then S.getD (wF S p + i) 0 else 0
theorem w_letter {i : Nat} (hL : L < 1000) (W : isWo w L S p v) (T : isLt w L S) (hp : p ≤ S.length) (hi : i < 2 ^ 20) : ex_call X 90 [.ref 8, .int (nI i)] w = some (some (.int (nI (ltr S p i))), w) := by
  have hl := lt_len T
  have wb := w_b hp
  obtain ⟨hn, bl, ls, h8, _⟩ := W
  have sb : nI (wT S p) - nI (wF S p) = nI (wT S p - wF S p) := pk_sub wb.2.1
  have c0 : ¬ nI i < 0 := nI_pos (by omega)
  unfold ltr
  show ex_go X 90 0 [(0, .ref 8), (1, .int (nI i))] [] w = _
  by_cases c : i < wT S p - wF S p
  · have e : nI i < nI (wT S p - wF S p) := nI_lt c (by omega)
    have al := lt_al T (i := wF S p + i) (by omega)
    rw [if_pos c]
    simp (disch := first | assumption | decide) only [s90_0, s90_1, s90_4, s90_5, s90_6, s90_9, s90_10, s90_13, s90_14, s90_17, s90_18, s90_21, s90_22, s90_25, s90_26, s90_29, s90_30, s90_31, s90_32, if_neg c0, ex_gf_i h8, List.getElem?_cons_zero, List.getElem?_cons_succ, Option.bind_some, Option.toList_some, Option.toList_none, List.cons_append, List.nil_append, not_true_eq_false, if_false, if_true, sb, if_pos e, nI_add, al]
  · have e : ¬ nI i < nI (wT S p - wF S p) := nI_nlt (by omega) (by omega)
    rw [if_neg c]
    simp (disch := first | assumption | decide) only [s90_0, s90_1, s90_4, s90_5, s90_6, s90_9, s90_10, s90_13, s90_14, s90_17, s90_18, s90_21, s90_22, s90_25, s90_26, s90_29, s90_30, s90_31, s90_32, if_neg c0, ex_gf_i h8, List.getElem?_cons_zero, List.getElem?_cons_succ, Option.bind_some, Option.toList_some, Option.toList_none, List.cons_append, List.nil_append, not_true_eq_false, if_false, if_true, sb, if_neg e]
    rfl
end WORDS3
