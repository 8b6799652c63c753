/-! the other object's make and exact -/
section MAKE6
variable {w : ex_W} {B P Q : List Nat}
theorem y_srcLoop {m : Nat → Int32} {v : Int64} {qs : List Int32} (hQ : holds qs Q) (hql : qs.length = 200) (h7 : m 7 = nI Q.length) : ∀ (k i : Nat) (ss : List Int32) (w : ex_W), i + k = Q.length → w[32]? = some (.inl (8, mo m v)) → w[36]? = some (.inr (0, qs)) → w[41]? = some (.inr (0, ss)) → ss.length = 1000 → (∀ j, j < i → ss.getD j 0 = nI (Q.getD j 0)) → ∃ ss2, ss2.length = 1000 ∧ holds ss2 Q ∧ ex_go none 135 2 [(0, .ref 32), (1, .int (nI i))] [] w = ex_go none 135 28 [(0, .ref 32)] [] (w.set 41 (.inr (0, ss2))) := by
  have hpp := hQ.1
  intro k
  induction k with
  | zero =>
    intro i ss w hi h32 h36 h41 hl hh
    have e : nI Q.length ≤ nI i := nI_le (by omega) (by omega)
    have g7 : ex_gf w 32 8 7 = some (.int (nI Q.length)) := by rw [ex_gf_i h32, mo_7, h7]
    refine ⟨ss, hl, ⟨by omega, fun j hj => hh j (by omega)⟩, ?_⟩
    rw [set_id h41]
    simp (disch := first | assumption | decide) only [s135_2, s135_3, s135_4, s135_7, g7, List.getElem?_cons_zero, List.getElem?_cons_succ, Option.bind_some, Option.toList_some, Option.toList_none, List.cons_append, List.nil_append, not_true_eq_false, if_false, if_true, if_pos e]
  | succ k ih =>
    intro i ss w hi h32 h36 h41 hl hh
    have e : ¬ nI Q.length ≤ nI i := nI_ge (by omega) (by omega)
    have g7 : ex_gf w 32 8 7 = some (.int (nI Q.length)) := by rw [ex_gf_i h32, mo_7, h7]
    have g13 : ex_gf w 32 8 13 = some (.ref 41) := (ex_gf_i h32).trans mo_13
    have g6 : ex_gf w 32 8 6 = some (.ref 36) := (ex_gf_i h32).trans mo_6
    have al := ex_al_i (kd := 0) (n := i) h36 (by omega) (by omega)
    rw [hQ.2 i (by omega)] at al
    have as := ex_as_i (kd := 0) (n := i) (x := nI (Q.getD i 0)) h41 (by omega) (by omega)
    obtain ⟨ss2, b1, b2, b3⟩ := ih (i + 1) (ss.set i (nI (Q.getD i 0))) (w.set 41 (.inr (0, ss.set i (nI (Q.getD i 0))))) (by omega) (ex_set_o (by decide) h32) (ex_set_o (by decide) h36) (ex_set_s h41) (by rw [List.length_set]; exact hl) (by
      intro j hj
      rw [set_get (by omega)]
      by_cases c : i = j
      · rw [if_pos c, c]
      · rw [if_neg c]; exact hh j (by omega))
    rw [List.set_set] at b3
    refine ⟨ss2, b1, b2, ?_⟩
    rw [← b3, s135_2]
    simp (disch := first | assumption | decide) only [s135_3, s135_4, s135_7, s135_10, s135_11, s135_14, s135_15, s135_16, s135_19, s135_20, s135_21, s135_22, s135_25, g7, List.getElem?_cons_zero, List.getElem?_cons_succ, Option.bind_some, Option.toList_some, Option.toList_none, List.cons_append, List.nil_append, not_true_eq_false, if_false, if_true, if_neg e, g13, g6, al, as, nI_1]
theorem y_txtLoop {m : Nat → Int32} {v : Int64} {xt : List Int32} {T : List Nat} (hT : holds xt T) (hxl : xt.length = 1000) (h9 : m 9 = nI T.length) : ∀ (k i : Nat) (ss : List Int32) (w : ex_W), i + k = T.length → w[32]? = some (.inl (8, mo m v)) → w[37]? = some (.inr (0, xt)) → w[41]? = some (.inr (0, ss)) → ss.length = 1000 → (∀ j, j < i → ss.getD j 0 = nI (T.getD j 0)) → ∃ ss2, ss2.length = 1000 ∧ holds ss2 T ∧ ex_go none 168 2 [(0, .ref 32), (1, .int (nI i))] [] w = ex_go none 168 28 [(0, .ref 32)] [] (w.set 41 (.inr (0, ss2))) := by
  have hpp := hT.1
  intro k
  induction k with
  | zero =>
    intro i ss w hi h32 h37 h41 hl hh
    have e : nI T.length ≤ nI i := nI_le (by omega) (by omega)
    have g9 : ex_gf w 32 8 9 = some (.int (nI T.length)) := by rw [ex_gf_i h32, mo_9, h9]
    refine ⟨ss, hl, ⟨by omega, fun j hj => hh j (by omega)⟩, ?_⟩
    rw [set_id h41]
    simp (disch := first | assumption | decide) only [s168_2, s168_3, s168_4, s168_7, g9, List.getElem?_cons_zero, List.getElem?_cons_succ, Option.bind_some, Option.toList_some, Option.toList_none, List.cons_append, List.nil_append, not_true_eq_false, if_false, if_true, if_pos e]
  | succ k ih =>
    intro i ss w hi h32 h37 h41 hl hh
    have e : ¬ nI T.length ≤ nI i := nI_ge (by omega) (by omega)
    have g9 : ex_gf w 32 8 9 = some (.int (nI T.length)) := by rw [ex_gf_i h32, mo_9, h9]
    have g13 : ex_gf w 32 8 13 = some (.ref 41) := (ex_gf_i h32).trans mo_13
    have g8 : ex_gf w 32 8 8 = some (.ref 37) := (ex_gf_i h32).trans mo_8
    have al := ex_al_i (kd := 0) (n := i) h37 (by omega) (by omega)
    rw [hT.2 i (by omega)] at al
    have as := ex_as_i (kd := 0) (n := i) (x := nI (T.getD i 0)) h41 (by omega) (by omega)
    obtain ⟨ss2, b1, b2, b3⟩ := ih (i + 1) (ss.set i (nI (T.getD i 0))) (w.set 41 (.inr (0, ss.set i (nI (T.getD i 0))))) (by omega) (ex_set_o (by decide) h32) (ex_set_o (by decide) h37) (ex_set_s h41) (by rw [List.length_set]; exact hl) (by
      intro j hj
      rw [set_get (by omega)]
      by_cases c : i = j
      · rw [if_pos c, c]
      · rw [if_neg c]; exact hh j (by omega))
    rw [List.set_set] at b3
    refine ⟨ss2, b1, b2, ?_⟩
    rw [← b3, s168_2]
    simp (disch := first | assumption | decide) only [s168_3, s168_4, s168_7, s168_10, s168_11, s168_14, s168_15, s168_16, s168_19, s168_20, s168_21, s168_22, s168_25, g9, List.getElem?_cons_zero, List.getElem?_cons_succ, Option.bind_some, Option.toList_some, Option.toList_none, List.cons_append, List.nil_append, not_true_eq_false, if_false, if_true, if_neg e, g13, g8, al, as, nI_1]
theorem y_blkLoop {m : Nat → Int32} {v : Int64} {ms : List Int32} {M : List Nat} (hM : holds ms M) (hml : ms.length = 140) (hM2 : M.length ≤ 120) (h3 : m 3 = nI M.length) : ∀ (k i : Nat) (bs : List Int32) (w : ex_W), i + k = M.length → w[32]? = some (.inl (8, mo m v)) → w[34]? = some (.inr (0, ms)) → w[33]? = some (.inr (0, bs)) → bs.length = 130 → (∀ j, j < i → bs.getD j 0 = nI (M.getD j 0)) → ∃ bs2, bs2.length = 130 ∧ holds bs2 M ∧ ex_go none 135 65 [(0, .ref 32), (1, .int (nI i))] [] w = ex_go none 135 91 [(0, .ref 32)] [] (w.set 33 (.inr (0, bs2))) := by
  intro k
  induction k with
  | zero =>
    intro i bs w hi h32 h34 h33 hl hh
    have e : nI M.length ≤ nI i := nI_le (by omega) (by omega)
    have g3 : ex_gf w 32 8 3 = some (.int (nI M.length)) := by rw [ex_gf_i h32, mo_3, h3]
    refine ⟨bs, hl, ⟨by omega, fun j hj => hh j (by omega)⟩, ?_⟩
    rw [set_id h33]
    simp (disch := first | assumption | decide) only [s135_65, s135_66, s135_67, s135_70, g3, List.getElem?_cons_zero, List.getElem?_cons_succ, Option.bind_some, Option.toList_some, Option.toList_none, List.cons_append, List.nil_append, not_true_eq_false, if_false, if_true, if_pos e]
  | succ k ih =>
    intro i bs w hi h32 h34 h33 hl hh
    have e : ¬ nI M.length ≤ nI i := nI_ge (by omega) (by omega)
    have g3 : ex_gf w 32 8 3 = some (.int (nI M.length)) := by rw [ex_gf_i h32, mo_3, h3]
    have g0 : ex_gf w 32 8 0 = some (.ref 33) := (ex_gf_i h32).trans mo_0
    have g2 : ex_gf w 32 8 2 = some (.ref 34) := (ex_gf_i h32).trans mo_2
    have al := ex_al_i (kd := 0) (n := i) h34 (by omega) (by omega)
    rw [hM.2 i (by omega)] at al
    have as := ex_as_i (kd := 0) (n := i) (x := nI (M.getD i 0)) h33 (by omega) (by omega)
    obtain ⟨bs2, b1, b2, b3⟩ := ih (i + 1) (bs.set i (nI (M.getD i 0))) (w.set 33 (.inr (0, bs.set i (nI (M.getD i 0))))) (by omega) (ex_set_o (by decide) h32) (ex_set_o (by decide) h34) (ex_set_s h33) (by rw [List.length_set]; exact hl) (by
      intro j hj
      rw [set_get (by omega)]
      by_cases c : i = j
      · rw [if_pos c, c]
      · rw [if_neg c]; exact hh j (by omega))
    rw [List.set_set] at b3
    refine ⟨bs2, b1, b2, ?_⟩
    rw [← b3, s135_65]
    simp (disch := first | assumption | decide) only [s135_66, s135_67, s135_70, s135_73, s135_74, s135_77, s135_78, s135_79, s135_82, s135_83, s135_84, s135_85, s135_88, g3, List.getElem?_cons_zero, List.getElem?_cons_succ, Option.bind_some, Option.toList_some, Option.toList_none, List.cons_append, List.nil_append, not_true_eq_false, if_false, if_true, if_neg e, g0, g2, al, as, nI_1]
theorem y_cmpLoop {m : Nat → Int32} {v : Int64} {ms bs : List Int32} {M : List Nat} (hM : holds ms M) (hml : ms.length = 140) (h1 : m 1 = nI B.length) (hB : holds bs B) (hbl : bs.length = 130) (hl : M.length = B.length) (hMb : ∀ j, M.getD j 0 < 256) (hBb : ∀ j, B.getD j 0 < 256) (h32 : w[32]? = some (.inl (8, mo m v))) (h34 : w[34]? = some (.inr (0, ms))) (h33 : w[33]? = some (.inr (0, bs))) : ∀ (k i : Nat), i + k = B.length → ex_go none 168 62 [(0, .ref 32), (1, .int 1), (2, .int (nI i))] [] w = some (some (.int (if M.drop i = B.drop i then 1 else 0)), w) := by
  have hBl := hB.1
  have g1 : ex_gf w 32 8 1 = some (.int (nI B.length)) := by rw [ex_gf_i h32, mo_1, h1]
  have g0 : ex_gf w 32 8 0 = some (.ref 33) := (ex_gf_i h32).trans mo_0
  have g2 : ex_gf w 32 8 2 = some (.ref 34) := (ex_gf_i h32).trans mo_2
  have n1 : ¬ (1 : Int32) = 0 := by decide
  intro k
  induction k with
  | zero =>
    intro i hi
    have e : nI B.length ≤ nI i := nI_le (by omega) (by omega)
    rw [if_pos (by rw [List.drop_eq_nil_of_le (by omega), List.drop_eq_nil_of_le (by omega)])]
    simp (disch := first | assumption | decide) only [s168_62, s168_63, s168_64, s168_67, s168_101, s168_102, g1, List.getElem?_cons_zero, List.getElem?_cons_succ, Option.bind_some, Option.toList_some, Option.toList_none, List.cons_append, List.nil_append, not_true_eq_false, if_false, if_true, if_pos e]
  | succ k ih =>
    intro i hi
    have e : ¬ nI B.length ≤ nI i := nI_ge (by omega) (by omega)
    have a1 := ex_al_i (kd := 0) (n := i) h34 (by omega) (by omega)
    rw [hM.2 i (by omega)] at a1
    have a2 := ex_al_i (kd := 0) (n := i) h33 (by omega) (by omega)
    rw [hB.2 i (by omega)] at a2
    have x1 := hMb i
    have x2 := hBb i
    rw [drop_getD (l := M) (by omega), drop_getD (l := B) (by omega), s168_62]
    by_cases c : M.getD i 0 = B.getD i 0
    · have e2 : ¬ ¬ nI (M.getD i 0) = nI (B.getD i 0) := fun z => z (by rw [c])
      simp (disch := first | assumption | decide) only [s168_63, s168_64, s168_67, s168_70, s168_71, s168_74, s168_75, s168_78, s168_79, s168_80, s168_81, s168_84, s168_85, s168_86, s168_89, s168_90, s168_93, s168_94, s168_95, s168_98, g1, List.getElem?_cons_zero, List.getElem?_cons_succ, Option.bind_some, Option.toList_some, Option.toList_none, List.cons_append, List.nil_append, not_true_eq_false, if_false, if_true, if_neg e, if_neg n1, g2, a1, g0, a2, if_neg e2, nI_1, ih (i + 1) (by omega)]
      by_cases d : M.drop (i + 1) = B.drop (i + 1)
      · rw [if_pos d, if_pos (by rw [c, d])]
      · rw [if_neg d, if_neg (fun z => d (List.cons.inj z).2)]
    · have e2 : ¬ nI (M.getD i 0) = nI (B.getD i 0) := fun z => c ((nI_eq (by omega) (by omega)).mp z)
      rw [if_neg (fun z => c (List.cons.inj z).1)]
      simp (disch := first | assumption | decide) only [s168_63, s168_64, s168_67, s168_70, s168_71, s168_74, s168_75, s168_78, s168_79, s168_80, s168_81, s168_84, s168_85, s168_86, s168_89, s168_90, s168_93, s168_94, s168_95, s168_98, g1, List.getElem?_cons_zero, List.getElem?_cons_succ, Option.bind_some, Option.toList_some, Option.toList_none, List.cons_append, List.nil_append, not_true_eq_false, if_false, if_true, if_neg e, if_neg n1, g2, a1, g0, a2, if_pos e2, nI_1]
      by_cases e3 : nI B.length ≤ nI (i + 1)
      · simp (disch := first | assumption | decide) only [s168_62, s168_63, s168_64, s168_67, s168_101, s168_102, g1, List.getElem?_cons_zero, List.getElem?_cons_succ, Option.bind_some, Option.toList_some, Option.toList_none, List.cons_append, List.nil_append, not_true_eq_false, if_false, if_true, if_pos e3]
      · simp (disch := first | assumption | decide) only [s168_62, s168_63, s168_64, s168_67, s168_70, s168_71, s168_101, s168_102, g1, List.getElem?_cons_zero, List.getElem?_cons_succ, Option.bind_some, Option.toList_some, Option.toList_none, List.cons_append, List.nil_append, not_true_eq_false, if_false, if_true, if_neg e3]
/-- behind a reading the rest is as before -/
theorem rInv_read {w0 w2 : ex_W} {m : Nat → Int32} {mn en pl fr to ft tot pt ca : Int32} {v : Int64} {ls : List Nat} {ns : NM} (h : rFr w0 w2) (h32 : w2[32]? = some (rd m mn en pl fr to ft tot pt ca (nI ls.length) (nI ns.length) v)) (hR : isRl w2 ls ns) (h34 : ∃ ms : List Int32, w2[34]? = some (.inr (0, ms)) ∧ ms.length = 140) (m1 : m 1 = nI B.length) (m5 : m 5 = nI P.length) (m7 : m 7 = nI Q.length) (m9 : m 9 = nI (telT B).length) (c1 : ∃ bs, w0[33]? = some (.inr (0, bs)) ∧ bs.length = 130 ∧ holds bs B) (c3 : ∃ ps, w0[35]? = some (.inr (0, ps)) ∧ ps.length = 124 ∧ holds ps P) (c4 : ∃ qs, w0[36]? = some (.inr (0, qs)) ∧ qs.length = 200 ∧ holds qs Q) (c5 : ∃ xs, w0[37]? = some (.inr (0, xs)) ∧ holds xs (telT B) ∧ xs.length = 1000) (c6 : ∃ ds, w0[38]? = some (.inr (0, ds)) ∧ ds.length = 20) (c7 : ∃ bg, w0[39]? = some (.inr (1, bg)) ∧ bg.length = 121) (c8 : ∃ ln, w0[40]? = some (.inr (0, ln)) ∧ ln.length = 121) (c9 : ∃ ss, w0[41]? = some (.inr (0, ss)) ∧ ss.length = 1000) : rInv w2 B P Q := by
  obtain ⟨bs, c1⟩ := c1
  obtain ⟨ps, c3⟩ := c3
  obtain ⟨qs, c4⟩ := c4
  obtain ⟨xs, c5⟩ := c5
  obtain ⟨ds, c6⟩ := c6
  obtain ⟨bg, c7⟩ := c7
  obtain ⟨ln, c8⟩ := c8
  obtain ⟨ss, c9⟩ := c9
  rw [rd_mo] at h32
  exact ⟨⟨_, v, ls, ns, h32, rfl, rfl, hR, m1, m5, m7, m9⟩, ⟨bs, (h.2 33 (by decide)).trans c1.1, c1.2⟩, h34, ⟨ps, (h.2 35 (by decide)).trans c3.1, c3.2⟩, ⟨qs, (h.2 36 (by decide)).trans c4.1, c4.2⟩, ⟨xs, (h.2 37 (by decide)).trans c5.1, c5.2⟩, ⟨ds, (h.2 38 (by decide)).trans c6.1, c6.2⟩, ⟨bg, (h.2 39 (by decide)).trans c7.1, c7.2⟩, ⟨ln, (h.2 40 (by decide)).trans c8.1, c8.2⟩, ⟨ss, (h.2 41 (by decide)).trans c9.1, c9.2⟩⟩
theorem r_make (hp : pI B P Q) (h : rInv w B P Q) : (∀ f, parP Q = .inl f → ∃ w1, ex_call none 135 [.ref 32] w = some (some (.int (-1 - nI f)), w1) ∧ rInv w1 B P [] ∧ fR w w1) ∧ (∀ M, parP Q = .inr M → ∃ w1, ex_call none 135 [.ref 32] w = some (some (.int (nI M.length)), w1) ∧ rInv w1 M P [] ∧ fR w w1) := by
  obtain ⟨⟨m, v, ls, ns, g1, g2, g3, g4, g5, g6, g7, g8⟩, ⟨bs, c1, c1l, c1h⟩, ⟨ms, c2⟩, ⟨ps, c3⟩, ⟨qs, c4, c4l, c4h⟩, c5, c6, c7, c8, ⟨ss, c9, c9l⟩⟩ := h
  have q200 := hp.2.2.2.2.1
  obtain ⟨ss2, s1, s2, s3⟩ := y_srcLoop c4h c4l g7 Q.length 0 ss w (by omega) g1 c4 c9 c9l (fun j hj => by omega)
  have s3 : ex_go none 135 2 [(0, .ref 32), (1, .int 0)] [] w = _ := s3
  -- the fields
  have k1 : (w.set 41 (.inr (0, ss2)))[32]? = some (.inl (8, mo m v)) := ex_set_o (by decide) g1
  have gl : ex_gf (w.set 41 (.inr (0, ss2))) 32 8 7 = some (.int (nI Q.length)) := by rw [ex_gf_i k1, mo_7, g7]
  have p14 : ex_pf (w.set 41 (.inr (0, ss2))) 32 8 14 (.int (nI Q.length)) = some ((w.set 41 (.inr (0, ss2))).set 32 (.inl (8, mo (upd m 14 (nI Q.length)) v))) := by
    have := ex_pf_i (k := 14) (v := .int (nI Q.length)) k1 (by rw [mo_len]; decide)
    rw [mo_s14] at this
    exact this
  have k2 : ((w.set 41 (.inr (0, ss2))).set 32 (.inl (8, mo (upd m 14 (nI Q.length)) v)))[32]? = some (.inl (8, mo (upd m 14 (nI Q.length)) v)) := ex_set_s k1
  have p7 : ex_pf ((w.set 41 (.inr (0, ss2))).set 32 (.inl (8, mo (upd m 14 (nI Q.length)) v))) 32 8 7 (.int 0) = some ((w.set 41 (.inr (0, ss2))).set 32 (.inl (8, mo (upd (upd m 14 (nI Q.length)) 7 0) v))) := by
    have := ex_pf_i (k := 7) (v := .int 0) k2 (by rw [mo_len]; decide)
    rw [mo_s7, List.set_set] at this
    exact this
  have k3 : ((w.set 41 (.inr (0, ss2))).set 32 (.inl (8, mo (upd (upd m 14 (nI Q.length)) 7 0) v)))[32]? = some (.inl (8, mo (upd (upd m 14 (nI Q.length)) 7 0) v)) := ex_set_s k1
  have o : ∀ j, j ≠ 32 → j ≠ 41 → ((w.set 41 (.inr (0, ss2))).set 32 (.inl (8, mo (upd (upd m 14 (nI Q.length)) 7 0) v)))[j]? = w[j]? := by
    intro j x y
    rw [List.getElem?_set_ne (Ne.symm x), List.getElem?_set_ne (Ne.symm y)]
  have ow : ((w.set 41 (.inr (0, ss2))).set 32 (.inl (8, mo (upd (upd m 14 (nI Q.length)) 7 0) v))).length = w.length := by rw [List.length_set, List.length_set]
  have k41 : ((w.set 41 (.inr (0, ss2))).set 32 (.inl (8, mo (upd (upd m 14 (nI Q.length)) 7 0) v)))[41]? = some (.inr (0, ss2)) := ex_set_o (by decide) (ex_set_s c9)
  generalize hw0 : (w.set 41 (.inr (0, ss2))).set 32 (.inl (8, mo (upd (upd m 14 (nI Q.length)) 7 0) v)) = w0 at *
  generalize hm0 : upd (upd m 14 (nI Q.length)) 7 0 = m0 at *
  have n14 : m0 14 = nI Q.length := by rw [← hm0]; rfl
  have n24 : m0 24 = nI ls.length := by rw [← hm0]; exact g2
  have n28 : m0 28 = nI ns.length := by rw [← hm0]; exact g3
  have n1' : m0 1 = nI B.length := by rw [← hm0]; exact g5
  have n5 : m0 5 = nI P.length := by rw [← hm0]; exact g6
  have n7 : m0 7 = nI ([] : List Nat).length := by rw [← hm0]; rfl
  have n9 : m0 9 = nI (telT B).length := by rw [← hm0]; exact g8
  have E : isSr w0 Q := ⟨ss2, k41, s2, by omega, hp.2.2.2.1⟩
  have R : RI m0 w0 Q := ⟨⟨_, _, _, _, _, _, _, _, v, ls, ns, by rw [k3, mo_rd n14 n24 n28], rl_o g4 (fun j x y => o j (by omega) (by omega))⟩, ms, (o 34 (by decide) (by decide)).trans c2.1, c2.2⟩
  have rdd := y_read (X := none) R E hp.2.2.1 (ln_typed q200)
  have rc0 : ex_rc w0 32 8 = true := ex_rc_o k3 (by decide) (by decide)
  have hd : ∀ x w1, ex_call none 136 [.ref 32] w0 = some (some (.int x), w1) → ex_call none 135 [.ref 32] w = ex_go none 135 45 [(0, .ref 32)] [.int x] w1 := by
    intro x w1 h
    show ex_go none 135 0 [(0, .ref 32)] [] w = _
    simp (disch := first | assumption | decide) only [s135_0, s135_1, s3]
    simp (disch := first | assumption | decide) only [s135_28, s135_29, s135_30, s135_33, s135_36, s135_37, s135_38, s135_41, s135_42, gl, List.getElem?_cons_zero, List.getElem?_cons_succ, Option.bind_some, Option.toList_some, Option.toList_none, List.cons_append, List.nil_append, not_true_eq_false, if_false, if_true, p14, p7, h]
  have n1 : ¬ (1 : Int32) = 0 := by decide
  have t5 : ∃ xs, w0[37]? = some (.inr (0, xs)) ∧ holds xs (telT B) ∧ xs.length = 1000 := by
    obtain ⟨xs, x⟩ := c5
    exact ⟨xs, (o 37 (by decide) (by decide)).trans x.1, x.2⟩
  have t6 : ∃ ds, w0[38]? = some (.inr (0, ds)) ∧ ds.length = 20 := by
    obtain ⟨xs, x⟩ := c6
    exact ⟨xs, (o 38 (by decide) (by decide)).trans x.1, x.2⟩
  have t7 : ∃ bg, w0[39]? = some (.inr (1, bg)) ∧ bg.length = 121 := by
    obtain ⟨xs, x⟩ := c7
    exact ⟨xs, (o 39 (by decide) (by decide)).trans x.1, x.2⟩
  have t8 : ∃ ln, w0[40]? = some (.inr (0, ln)) ∧ ln.length = 121 := by
    obtain ⟨xs, x⟩ := c8
    exact ⟨xs, (o 40 (by decide) (by decide)).trans x.1, x.2⟩
  constructor
  · intro f hf
    obtain ⟨w1, a1, r1, ⟨mn, en, pl, fr, to, tot, pt, ca, v2, ls2, ns2, r2, r3⟩, r4⟩ := rdd.2 f hf
    have gf : ex_gf w1 32 8 18 = some (.int (nI f)) := ex_gf_i r2
    refine ⟨w1, ?_, rInv_read r1 r2 r3 r4 n1' n5 n7 n9 ⟨bs, (o 33 (by decide) (by decide)).trans c1, c1l, c1h⟩ ⟨ps, (o 35 (by decide) (by decide)).trans c3.1, c3.2⟩ ⟨qs, (o 36 (by decide) (by decide)).trans c4, c4l, holds_nil⟩ t5 t6 t7 t8 ⟨ss2, k41, s1⟩, by rw [r1.1]; exact ow, fun j hj => (r1.2 j (by omega)).trans (o j (by omega) (by omega))⟩
    rw [hd 0 w1 a1]
    simp (disch := first | assumption | decide) only [s135_45, s135_48, s135_49, s135_50, s135_53, s135_54, List.getElem?_cons_zero, List.getElem?_cons_succ, Option.bind_some, Option.toList_some, Option.toList_none, List.cons_append, List.nil_append, not_true_eq_false, if_false, if_true, gf]
  · intro M hM
    obtain ⟨w1, a1, p, fr, to, v2, b, q, ca, ls2, ns2, r1, r2, ⟨ms2, y1, y2, y3⟩, r4⟩ := rdd.1 M hM
    obtain ⟨sc, bM, m120⟩ := par_ok hp.2.2.2.1 hM
    have H := scan_shape sc
    rw [rd_mo] at r2
    generalize hm1 : mOf m0 (nI M.length) (nI Q.length) (nI p) fr to (-1) (nI b) (nI q) (nI ca) (nI ls2.length) (nI ns2.length) = m1 at *
    have x3 : m1 3 = nI M.length := by rw [← hm1]; rfl
    have x24 : m1 24 = nI ls2.length := by rw [← hm1]; rfl
    have x28 : m1 28 = nI ns2.length := by rw [← hm1]; rfl
    have x5 : m1 5 = nI P.length := by rw [← hm1]; exact n5
    have x7 : m1 7 = nI ([] : List Nat).length := by rw [← hm1]; exact n7
    have x9 : m1 9 = nI (telT B).length := by rw [← hm1]; exact n9
    have gm : ex_gf w1 32 8 3 = some (.int (nI M.length)) := by rw [ex_gf_i r2, mo_3, x3]
    have p1 : ex_pf w1 32 8 1 (.int (nI M.length)) = some (w1.set 32 (.inl (8, mo (upd m1 1 (nI M.length)) v2))) := by
      have := ex_pf_i (k := 1) (v := .int (nI M.length)) r2 (by rw [mo_len]; decide)
      rw [mo_s1] at this
      exact this
    have z32 : (w1.set 32 (.inl (8, mo (upd m1 1 (nI M.length)) v2)))[32]? = some (.inl (8, mo (upd m1 1 (nI M.length)) v2)) := ex_set_s r2
    have q1 : ∀ j, j ≠ 32 → (w1.set 32 (.inl (8, mo (upd m1 1 (nI M.length)) v2)))[j]? = w1[j]? := fun j x => List.getElem?_set_ne (Ne.symm x)
    have w33 : w1[33]? = some (.inr (0, bs)) := (r1.2 33 (by decide)).trans ((o 33 (by decide) (by decide)).trans c1)
    obtain ⟨bs2, u1, u2, u3⟩ := y_blkLoop y3 y2 m120 (by show m1 3 = _; exact x3) M.length 0 bs _ (by omega) z32 ((q1 34 (by decide)).trans y1) ((q1 33 (by decide)).trans w33) c1l (fun j hj => by omega)
    have u3 : ex_go none 135 65 [(0, .ref 32), (1, .int 0)] [] (w1.set 32 (.inl (8, mo (upd m1 1 (nI M.length)) v2))) = _ := u3
    have z33 : ((w1.set 32 (.inl (8, mo (upd m1 1 (nI M.length)) v2))).set 33 (.inr (0, bs2)))[32]? = some (.inl (8, mo (upd m1 1 (nI M.length)) v2)) := ex_set_o (by decide) z32
    have q2 : ∀ j, j ≠ 32 → j ≠ 33 → ((w1.set 32 (.inl (8, mo (upd m1 1 (nI M.length)) v2))).set 33 (.inr (0, bs2)))[j]? = w1[j]? := fun j x y => by
      rw [List.getElem?_set_ne (Ne.symm y)]
      exact q1 j x
    have q3 : ∀ j, j ≠ 32 → j ≠ 33 → (34 < j ∧ j < 42) → ((w1.set 32 (.inl (8, mo (upd m1 1 (nI M.length)) v2))).set 33 (.inr (0, bs2)))[j]? = w0[j]? := fun j x y z => (q2 j x y).trans (r1.2 j (by omega))
    have z33b : ((w1.set 32 (.inl (8, mo (upd m1 1 (nI M.length)) v2))).set 33 (.inr (0, bs2)))[33]? = some (.inr (0, bs2)) := ex_set_s ((q1 33 (by decide)).trans w33)
    have rc3 : ex_rc ((w1.set 32 (.inl (8, mo (upd m1 1 (nI M.length)) v2))).set 33 (.inr (0, bs2))) 32 8 = true := ex_rc_o z33 (by decide) (by decide)
    obtain ⟨w4, a4, l4, f4, v1, v3, v4, v5, v6⟩ := r_tell (T0 := telT B) z33 (by show m1 9 = _; exact x9) z33b u1 u2 bM H (by
      obtain ⟨xs, x⟩ := t5
      exact ⟨xs, (q3 37 (by decide) (by decide) (by decide)).trans x.1, x.2⟩) (by
      obtain ⟨xs, x⟩ := t6
      exact ⟨xs, (q3 38 (by decide) (by decide) (by decide)).trans x.1, x.2⟩) (by
      obtain ⟨xs, x⟩ := t7
      exact ⟨xs, (q3 39 (by decide) (by decide) (by decide)).trans x.1, x.2⟩) (by
      obtain ⟨xs, x⟩ := t8
      exact ⟨xs, (q3 40 (by decide) (by decide) (by decide)).trans x.1, x.2⟩)
    have g1' : ex_gf w4 32 8 1 = some (.int (nI M.length)) := by
      rw [ex_gf_i v1, mo_1]
      rfl
    have e5 : ∀ j, j = 35 ∨ j = 36 ∨ j = 41 → w4[j]? = w0[j]? := fun j x => (f4 j (by omega) (by omega)).trans (q3 j (by omega) (by omega) (by omega))
    refine ⟨w4, ?_, ⟨⟨_, v2, ls2, ns2, v1, x24, x28, rl_o r4 (fun j x y => (f4 j (by omega) (by omega)).trans (q2 j (by omega) (by omega))), rfl, x5, x7, pk_us⟩, ⟨bs2, (f4 33 (by decide) (by decide)).trans z33b, u1, u2⟩, ⟨ms2, (f4 34 (by decide) (by decide)).trans ((q2 34 (by decide) (by decide)).trans y1), y2⟩, ⟨ps, (e5 35 (by decide)).trans ((o 35 (by decide) (by decide)).trans c3.1), c3.2⟩, ⟨qs, (e5 36 (by decide)).trans ((o 36 (by decide) (by decide)).trans c4), c4l, holds_nil⟩, v3, v4, v5, v6, ⟨ss2, (e5 41 (by decide)).trans k41, s1⟩⟩, ?_, fun j hj => (f4 j (by omega) (by omega)).trans ((q2 j (by omega) (by omega)).trans ((r1.2 j (by omega)).trans (o j (by omega) (by omega))))⟩
    · rw [hd 1 w1 a1]
      simp (disch := first | assumption | decide) only [s135_45, s135_48, s135_49, s135_50, s135_53, s135_54, s135_55, s135_56, s135_57, s135_60, s135_63, s135_64, if_pos n1, gm, List.getElem?_cons_zero, List.getElem?_cons_succ, Option.bind_some, Option.toList_some, Option.toList_none, List.cons_append, List.nil_append, not_true_eq_false, if_false, if_true, p1, u3]
      simp (disch := first | assumption | decide) only [s135_91, s135_92, s135_95, s135_96, s135_99, a4, List.getElem?_cons_zero, List.getElem?_cons_succ, Option.bind_some, Option.toList_some, Option.toList_none, List.cons_append, List.nil_append, not_true_eq_false, if_false, if_true, g1']
    · rw [l4, List.length_set, List.length_set, r1.1]
      exact ow
theorem r_exact (hp : pI B P Q) (h : rInv w B P Q) : ∃ w1, ex_call none 168 [.ref 32] w = some (some (.int (if parP (telT B) = .inr B then 1 else 0)), w1) ∧ rInv w1 B P Q ∧ fR w w1 := by
  obtain ⟨⟨m, v, ls, ns, g1, g2, g3, g4, g5, g6, g7, g8⟩, ⟨bs, c1, c1l, c1h⟩, ⟨ms, c2⟩, ⟨ps, c3⟩, ⟨qs, c4⟩, ⟨xt, c5, c5h, c5l⟩, c6, c7, c8, ⟨ss, c9, c9l⟩⟩ := h
  have tkk := tk_tel hp.2.2.2.2.2.2.1 hp.2.2.2.2.2.1
  have tch := tk_ch tkk
  have h808 := hp.2.2.2.2.2.2.2
  have h120 := hp.2.2.2.2.2.1.2.2.1
  obtain ⟨ss2, s1, s2, s3⟩ := y_txtLoop c5h c5l g8 (telT B).length 0 ss w (by omega) g1 c5 c9 c9l (fun j hj => by omega)
  have s3 : ex_go none 168 2 [(0, .ref 32), (1, .int 0)] [] w = _ := s3
  have k1 : (w.set 41 (.inr (0, ss2)))[32]? = some (.inl (8, mo m v)) := ex_set_o (by decide) g1
  have gl : ex_gf (w.set 41 (.inr (0, ss2))) 32 8 9 = some (.int (nI (telT B).length)) := by rw [ex_gf_i k1, mo_9, g8]
  have p14 : ex_pf (w.set 41 (.inr (0, ss2))) 32 8 14 (.int (nI (telT B).length)) = some ((w.set 41 (.inr (0, ss2))).set 32 (.inl (8, mo (upd m 14 (nI (telT B).length)) v))) := by
    have := ex_pf_i (k := 14) (v := .int (nI (telT B).length)) k1 (by rw [mo_len]; decide)
    rw [mo_s14] at this
    exact this
  have k3 : ((w.set 41 (.inr (0, ss2))).set 32 (.inl (8, mo (upd m 14 (nI (telT B).length)) v)))[32]? = some (.inl (8, mo (upd m 14 (nI (telT B).length)) v)) := ex_set_s k1
  have o : ∀ j, j ≠ 32 → j ≠ 41 → ((w.set 41 (.inr (0, ss2))).set 32 (.inl (8, mo (upd m 14 (nI (telT B).length)) v)))[j]? = w[j]? := by
    intro j x y
    rw [List.getElem?_set_ne (Ne.symm x), List.getElem?_set_ne (Ne.symm y)]
  have ow : ((w.set 41 (.inr (0, ss2))).set 32 (.inl (8, mo (upd m 14 (nI (telT B).length)) v))).length = w.length := by rw [List.length_set, List.length_set]
  have k41 : ((w.set 41 (.inr (0, ss2))).set 32 (.inl (8, mo (upd m 14 (nI (telT B).length)) v)))[41]? = some (.inr (0, ss2)) := ex_set_o (by decide) (ex_set_s c9)
  generalize hw0 : (w.set 41 (.inr (0, ss2))).set 32 (.inl (8, mo (upd m 14 (nI (telT B).length)) v)) = w0 at *
  generalize hm0 : upd m 14 (nI (telT B).length) = m0 at *
  have n14 : m0 14 = nI (telT B).length := by rw [← hm0]; rfl
  have n24 : m0 24 = nI ls.length := by rw [← hm0]; exact g2
  have n28 : m0 28 = nI ns.length := by rw [← hm0]; exact g3
  have n1' : m0 1 = nI B.length := by rw [← hm0]; exact g5
  have n5 : m0 5 = nI P.length := by rw [← hm0]; exact g6
  have n7 : m0 7 = nI Q.length := by rw [← hm0]; exact g7
  have n9 : m0 9 = nI (telT B).length := by rw [← hm0]; exact g8
  have E : isSr w0 (telT B) := ⟨ss2, k41, s2, by omega, tch.2⟩
  have R : RI m0 w0 (telT B) := ⟨⟨_, _, _, _, _, _, _, _, v, ls, ns, by rw [k3, mo_rd n14 n24 n28], rl_o g4 (fun j x y => o j (by omega) (by omega))⟩, ms, (o 34 (by decide) (by decide)).trans c2.1, c2.2⟩
  have rdd := y_read (X := none) R E tch.1 (ln_told tkk)
  have rc0 : ex_rc w0 32 8 = true := ex_rc_o k3 (by decide) (by decide)
  have hd : ∀ x w1, ex_call none 136 [.ref 32] w0 = some (some (.int x), w1) → ex_call none 168 [.ref 32] w = ex_go none 168 40 [(0, .ref 32)] [.int x] w1 := by
    intro x w1 h
    show ex_go none 168 0 [(0, .ref 32)] [] w = _
    simp (disch := first | assumption | decide) only [s168_0, s168_1, s3]
    simp (disch := first | assumption | decide) only [s168_28, s168_29, s168_30, s168_33, s168_36, s168_37, gl, List.getElem?_cons_zero, List.getElem?_cons_succ, Option.bind_some, Option.toList_some, Option.toList_none, List.cons_append, List.nil_append, not_true_eq_false, if_false, if_true, p14, h]
  have n1 : ¬ (1 : Int32) = 0 := by decide
  have t6 : ∃ ds, w0[38]? = some (.inr (0, ds)) ∧ ds.length = 20 := by
    obtain ⟨xs, x⟩ := c6
    exact ⟨xs, (o 38 (by decide) (by decide)).trans x.1, x.2⟩
  have t7 : ∃ bg, w0[39]? = some (.inr (1, bg)) ∧ bg.length = 121 := by
    obtain ⟨xs, x⟩ := c7
    exact ⟨xs, (o 39 (by decide) (by decide)).trans x.1, x.2⟩
  have t8 : ∃ ln, w0[40]? = some (.inr (0, ln)) ∧ ln.length = 121 := by
    obtain ⟨xs, x⟩ := c8
    exact ⟨xs, (o 40 (by decide) (by decide)).trans x.1, x.2⟩
  have t1 : ∃ bs, w0[33]? = some (.inr (0, bs)) ∧ bs.length = 130 ∧ holds bs B := ⟨bs, (o 33 (by decide) (by decide)).trans c1, c1l, c1h⟩
  have t3 : ∃ ps, w0[35]? = some (.inr (0, ps)) ∧ ps.length = 124 ∧ holds ps P := ⟨ps, (o 35 (by decide) (by decide)).trans c3.1, c3.2⟩
  have t4 : ∃ qs, w0[36]? = some (.inr (0, qs)) ∧ qs.length = 200 ∧ holds qs Q := ⟨qs, (o 36 (by decide) (by decide)).trans c4.1, c4.2⟩
  have t5 : ∃ xs, w0[37]? = some (.inr (0, xs)) ∧ holds xs (telT B) ∧ xs.length = 1000 := ⟨xt, (o 37 (by decide) (by decide)).trans c5, c5h, c5l⟩
  -- not the same
  have no : ∀ w1 : ex_W, (∃ mn en pl fr to ft tot pt ca l n v, w1[32]? = some (rd m0 mn en pl fr to ft tot pt ca l n v)) → ex_go none 168 58 [(0, .ref 32)] [] w1 = some (some (.int 0), w1) := by
    rintro w1 ⟨mn, en, pl, fr, to, ft, tot, pt, ca, l, n, v, h⟩
    have gs : ex_gf w1 32 8 1 = some (.int (m0 1)) := ex_gf_i h
    by_cases e : m0 1 ≤ 0
    · simp (disch := first | assumption | decide) only [s168_58, s168_59, s168_60, s168_61, s168_62, s168_63, s168_64, s168_67, s168_70, s168_71, s168_101, s168_102, gs, List.getElem?_cons_zero, List.getElem?_cons_succ, Option.bind_some, Option.toList_some, Option.toList_none, List.cons_append, List.nil_append, not_true_eq_false, if_false, if_true, if_pos e]
    · simp (disch := first | assumption | decide) only [s168_58, s168_59, s168_60, s168_61, s168_62, s168_63, s168_64, s168_67, s168_70, s168_71, s168_101, s168_102, gs, List.getElem?_cons_zero, List.getElem?_cons_succ, Option.bind_some, Option.toList_some, Option.toList_none, List.cons_append, List.nil_append, not_true_eq_false, if_false, if_true, if_neg e]
  cases hP : parP (telT B) with
  | inl f =>
    obtain ⟨w1, a1, r1, ⟨mn, en, pl, fr, to, tot, pt, ca, v2, ls2, ns2, r2, r3⟩, r4⟩ := rdd.2 f hP
    refine ⟨w1, ?_, rInv_read r1 r2 r3 r4 n1' n5 n7 n9 t1 t3 t4 t5 t6 t7 t8 ⟨ss2, k41, s1⟩, by rw [r1.1]; exact ow, fun j hj => (r1.2 j (by omega)).trans (o j (by omega) (by omega))⟩
    rw [if_neg (fun z => by cases z), hd 0 w1 a1]
    simp (disch := first | assumption | decide) only [s168_40, List.getElem?_cons_zero, List.getElem?_cons_succ, Option.bind_some, Option.toList_some, Option.toList_none, List.cons_append, List.nil_append, not_true_eq_false, if_false, if_true]
    exact no w1 ⟨_, _, _, _, _, _, _, _, _, _, _, _, r2⟩
  | inr M =>
    obtain ⟨w1, a1, p, fr, to, v2, b, q, ca, ls2, ns2, r1, r2, ⟨ms2, y1, y2, y3⟩, r4⟩ := rdd.1 M hP
    obtain ⟨_, bM, m120⟩ := par_ok tch.2 hP
    have gm : ex_gf w1 32 8 3 = some (.int (nI M.length)) := ex_gf_i r2
    have gs : ex_gf w1 32 8 1 = some (.int (nI B.length)) := by rw [ex_gf_i r2, ← n1']; rfl
    refine ⟨w1, ?_, rInv_read r1 r2 r4 ⟨ms2, y1, y2⟩ n1' n5 n7 n9 t1 t3 t4 t5 t6 t7 t8 ⟨ss2, k41, s1⟩, by rw [r1.1]; exact ow, fun j hj => (r1.2 j (by omega)).trans (o j (by omega) (by omega))⟩
    rw [hd 1 w1 a1]
    by_cases c : M.length = B.length
    · have e : ¬ ¬ nI M.length = nI B.length := fun z => z (by rw [c])
      have r2' := r2
      rw [rd_mo] at r2'
      have lp := y_cmpLoop (w := w1) (M := M) (B := B) y3 y2 (by show m0 1 = _; exact n1') c1h c1l c bM hp.2.2.2.2.2.2.1 r2' y1 ((r1.2 33 (by decide)).trans ((o 33 (by decide) (by decide)).trans c1)) B.length 0 (by omega)
      rw [List.drop_zero, List.drop_zero] at lp
      have lp : ex_go none 168 62 [(0, .ref 32), (1, .int 1), (2, .int 0)] [] w1 = _ := lp
      have ei : (if (Sum.inr M : Nat ⊕ List Nat) = .inr B then (1 : Int32) else 0) = if M = B then 1 else 0 := by
        by_cases d : M = B
        · rw [if_pos d, if_pos (by rw [d])]
        · rw [if_neg d, if_neg (fun z => d (Sum.inr.inj z))]
      rw [ei]
      simp (disch := first | assumption | decide) only [s168_40, s168_43, s168_44, s168_47, s168_48, s168_51, s168_54, s168_55, s168_58, s168_59, s168_60, s168_61, if_neg n1, gm, gs, List.getElem?_cons_zero, List.getElem?_cons_succ, Option.bind_some, Option.toList_some, Option.toList_none, List.cons_append, List.nil_append, not_true_eq_false, if_false, if_true, if_neg e, lp]
    · have e : ¬ nI M.length = nI B.length := fun z => c ((nI_eq (by omega) (by omega)).mp z)
      rw [if_neg (fun z => c (by rw [Sum.inr.inj z]))]
      simp (disch := first | assumption | decide) only [s168_40, s168_43, s168_44, s168_47, s168_48, s168_51, if_neg n1, gm, gs, List.getElem?_cons_zero, List.getElem?_cons_succ, Option.bind_some, Option.toList_some, Option.toList_none, List.cons_append, List.nil_append, not_true_eq_false, if_false, if_true, if_pos e]
      exact no w1 ⟨_, _, _, _, _, _, _, _, _, _, _, _, r2⟩
theorem s_make (hl : w.length = 46) (hp : pI B P Q) (h1 : cInv w B P Q) (h2 : rInv w B P Q) : pr 7 135 [] w Inv := by
  have ct := c_make hp h1
  have e0 : chOK [] ∧ (∀ j, ([] : List Nat).getD j 0 < 256) := ⟨fun j hj => absurd hj (Nat.not_lt_zero _), fun j => by rw [getD_out (Nat.zero_le _)]; decide⟩
  cases hf : parP Q with
  | inl f => exact pr_of (B2 := B) (P2 := P) (Q2 := []) hl h1 h2 ⟨hp.1, hp.2.1, e0.1, e0.2, Nat.zero_le _, hp.2.2.2.2.2⟩ (ct.1 f hf) (fun w h => (r_make hp h).1 f hf)
  | inr M =>
    obtain ⟨w1, a1, a2, a3, a4⟩ := ct.2 M hf
    obtain ⟨sc, bM, m120⟩ := par_ok hp.2.2.2.1 hf
    exact pr_of (B2 := M) (P2 := P) (Q2 := []) hl h1 h2 ⟨hp.1, hp.2.1, e0.1, e0.2, Nat.zero_le _, scan_shape sc, bM, a4⟩ ⟨w1, a1, a2, a3⟩ (fun w h => (r_make hp h).2 M hf)
theorem s_exact (hl : w.length = 46) (hp : pI B P Q) (h1 : cInv w B P Q) (h2 : rInv w B P Q) : pr 14 168 [] w Inv := pr_of (B2 := B) (P2 := P) (Q2 := Q) hl h1 h2 hp (c_exact hp h1) (fun w h => r_exact hp h)
end MAKE6
theorem Inv_step : ∀ (_ : Nat), StepOK Inv Inv := by
  intro k w h
  have h0 := h
  obtain ⟨hl, B, P, Q, hp, h1, h2⟩ := h
  exact ⟨fun a b => s_put hl hp h1 h2 a b, s_take hl hp h1 h2, fun a b => s_type hl hp h1 h2 a b, s_make hl hp h1 h2, s_size hl hp h1 h2, fun a => s_byteAt hl hp h1 h2 a, s_length hl hp h1 h2, fun a => s_at hl hp h1 h2 a, fun a => s_count hl hp h1 h2 a, fun a => s_clear hl hp h1 h2 a, s_exact hl hp h1 h2, h0⟩
