/-! make and exact -/
theorem mo_rd {m : Nat → Int32} {v : Int64} {en l n : Int32} (h1 : m 14 = en) (h2 : m 24 = l) (h3 : m 28 = n) : (.inl (8, mo m v) : ex_C) = rd m (m 3) en (m 15) (m 16) (m 17) (m 18) (m 20) (m 21) (m 22) l n v := by
  subst h1
  subst h2
  subst h3
  rfl
def mOf (A : Nat → Int32) (mn en pl fr to ft tot pt ca ln nm : Int32) : Nat → Int32 := fun k => if k = 3 then mn else if k = 14 then en else if k = 15 then pl else if k = 16 then fr else if k = 17 then to else if k = 18 then ft else if k = 20 then tot else if k = 21 then pt else if k = 22 then ca else if k = 24 then ln else if k = 28 then nm else A k
theorem rd_mo (A : Nat → Int32) (mn en pl fr to ft tot pt ca ln nm : Int32) (v : Int64) : rd A mn en pl fr to ft tot pt ca ln nm v = .inl (8, mo (mOf A mn en pl fr to ft tot pt ca ln nm) v) := rfl
section LIKE
variable {X : Option (List Int32)} {w : ex_W} {h1 a1 h2 a2 : Nat} {xs ys : List Int32} {M B : List Nat}
theorem r_likeLoop (R : isRow w h1 a1 xs M.length) (H : holds xs M) (R2 : isRow w h2 a2 ys B.length) (H2 : holds ys B) (hM : ∀ j, M.getD j 0 < 256) (hB : ∀ j, B.getD j 0 < 256) (hl : M.length = B.length) : ∀ (k i : Nat), i + k = M.length → ex_go X 24 15 [(0, .ref h1), (1, .ref h2), (2, .int (nI i))] [] w = some (some (.int (if M.drop i = B.drop i then 1 else 0)), w) := by
  have r1 : ex_rc w h1 1 = true := ex_rc_o R.1 R.2.2.2.2.1 (by decide)
  have r2 : ex_rc w h2 1 = true := ex_rc_o R2.1 R2.2.2.2.2.1 (by decide)
  have hh1 := R.2.2.2.2.1
  have hh2 := R2.2.2.2.2.1
  have lx := R.2.2.1
  have lx2 := R.2.2.2.1
  intro k
  induction k with
  | zero =>
    intro i hi
    have e : nI M.length ≤ nI i := nI_le (by omega) (by omega)
    rw [if_pos (by rw [List.drop_eq_nil_of_le (by omega), List.drop_eq_nil_of_le (by omega)])]
    simp (disch := first | assumption | decide) only [s24_15, s24_16, s24_17, s24_20, s24_44, s24_45, ex_gf_i R.1, List.getElem?_cons_zero, List.getElem?_cons_succ, Option.bind_some, Option.toList_some, Option.toList_none, List.cons_append, List.nil_append, not_true_eq_false, if_false, if_true, if_pos e]
  | succ k ih =>
    intro i hi
    have e : ¬ nI M.length ≤ nI i := nI_ge (by omega) (by omega)
    have c1 := r_cellB (X := X) (i := i) R H (by omega)
    have c2 := r_cellB (X := X) (i := i) R2 H2 (by omega)
    have b1 := hM i
    have b2 := hB i
    rw [drop_getD (l := M) (by omega), drop_getD (l := B) (by omega), s24_15]
    by_cases c : M.getD i 0 = B.getD i 0
    · have e2 : nI (M.getD i 0) = nI (B.getD i 0) := by rw [c]
      simp (disch := first | assumption | decide) only [s24_16, s24_17, s24_20, s24_23, s24_24, s24_25, s24_28, s24_29, s24_30, s24_33, s24_36, s24_37, s24_38, s24_41, ex_gf_i R.1, List.getElem?_cons_zero, List.getElem?_cons_succ, Option.bind_some, Option.toList_some, Option.toList_none, List.cons_append, List.nil_append, not_true_eq_false, if_false, if_true, if_neg e, c1, c2, if_pos e2, nI_1, ih (i + 1) (by omega)]
      by_cases d : M.drop (i + 1) = B.drop (i + 1)
      · rw [if_pos d, if_pos (by rw [c, d])]
      · rw [if_neg d, if_neg (fun z => d (List.cons.inj z).2)]
    · have e2 : ¬ nI (M.getD i 0) = nI (B.getD i 0) := fun z => c ((nI_eq (by omega) (by omega)).mp z)
      rw [if_neg (fun z => c (List.cons.inj z).1)]
      simp (disch := first | assumption | decide) only [s24_16, s24_17, s24_20, s24_23, s24_24, s24_25, s24_28, s24_29, s24_30, s24_33, s24_36, s24_37, s24_38, s24_41, ex_gf_i R.1, List.getElem?_cons_zero, List.getElem?_cons_succ, Option.bind_some, Option.toList_some, Option.toList_none, List.cons_append, List.nil_append, not_true_eq_false, if_false, if_true, if_neg e, c1, c2, if_neg e2]
theorem r_like (R : isRow w h1 a1 xs M.length) (H : holds xs M) (R2 : isRow w h2 a2 ys B.length) (H2 : holds ys B) (hM : ∀ j, M.getD j 0 < 256) (hB : ∀ j, B.getD j 0 < 256) (hl1 : M.length < 2 ^ 20) (hl2 : B.length < 2 ^ 20) : ex_call X 24 [.ref h1, .ref h2] w = some (some (.int (if M = B then 1 else 0)), w) := by
  have hh1 := R.2.2.2.2.1
  have hh2 := R2.2.2.2.2.1
  show ex_go X 24 0 [(0, .ref h1), (1, .ref h2)] [] w = _
  by_cases c : M.length = B.length
  · have e : nI M.length = nI B.length := by rw [c]
    have lp := r_likeLoop (X := X) R H R2 H2 hM hB c M.length 0 (by omega)
    rw [List.drop_zero, List.drop_zero] at lp
    have lp : ex_go X 24 15 [(0, .ref h1), (1, .ref h2), (2, .int 0)] [] w = _ := lp
    simp (disch := first | assumption | decide) only [s24_0, s24_1, s24_4, s24_5, s24_8, s24_11, s24_12, s24_13, s24_14, ex_gf_i R.1, ex_gf_i R2.1, List.getElem?_cons_zero, List.getElem?_cons_succ, Option.bind_some, Option.toList_some, Option.toList_none, List.cons_append, List.nil_append, not_true_eq_false, if_false, if_true, if_pos e, lp]
  · have e : ¬ nI M.length = nI B.length := fun z => c ((nI_eq (by omega) (by omega)).mp z)
    rw [if_neg (fun z => c (by rw [z]))]
    simp (disch := first | assumption | decide) only [s24_0, s24_1, s24_4, s24_5, s24_8, s24_11, s24_12, ex_gf_i R.1, ex_gf_i R2.1, List.getElem?_cons_zero, List.getElem?_cons_succ, Option.bind_some, Option.toList_some, Option.toList_none, List.cons_append, List.nil_append, not_true_eq_false, if_false, if_true, if_neg e]
end LIKE
section MAKE5
variable {w : ex_W} {B P Q : List Nat}
theorem par_le {S : List Nat} {f : Nat} {w0 w : ex_W} {L : Nat} (h : isMf w0 w L S f) : f ≤ S.length := by
  obtain ⟨p, v, M, q1, q2, q3, q4, q5, q6, q7, q8, q9, K, hp, hf⟩ := h
  have := w_b hp
  omega
theorem mf_fr {S : List Nat} {f : Nat} {w0 w : ex_W} {L : Nat} (h : isMf w0 w L S f) : w.length = w0.length ∧ ∀ j, j < 5 ∨ j = 9 ∨ 14 < j → w[j]? = w0[j]? := by
  obtain ⟨p, v, M, q1, q2, q3, q4, q5, q6, q7, q8, q9, K, hp, hf⟩ := h
  exact ⟨K.1, K.2.1⟩
theorem md_fr {S M : List Nat} {w0 w : ex_W} {L : Nat} (h : isMd w0 w L S M) : w.length = w0.length ∧ (∀ j, j < 5 ∨ j = 9 ∨ 14 < j → w[j]? = w0[j]?) ∧ (∃ xs : List Int32, isRow w 6 7 xs M.length ∧ holds xs M ∧ xs.length = 120) ∧ ∃ pt cc br ic hl hr cs, w[5]? = some (mk pt cc br ic hl hr cs) := by
  obtain ⟨p, v, q1, q2, q3, q4, q5, q6, q7, q8, q9, K⟩ := h
  exact ⟨K.1, K.2.1, K.2.2.2.1, q1, q2, q3, q4, q5, q6, q7, K.2.2.1⟩
theorem c_make (hp : pI B P Q) (h : cInv w B P Q) : (∀ f, parP Q = .inl f → ∃ w1, ex_call none 7 [.ref 0] w = some (some (.int (-1 - nI f)), w1) ∧ cInv w1 B P [] ∧ fC w w1) ∧ (∀ M, parP Q = .inr M → ∃ w1, ex_call none 7 [.ref 0] w = some (some (.int (nI M.length)), w1) ∧ cInv w1 M P [] ∧ fC w w1 ∧ (telT M).length ≤ 808) := by
  obtain ⟨b1, b2, us, ts, hb, h0, ⟨R1, H1, l1⟩, ⟨R3, H3, l3⟩, A, ⟨D, pl, ms, S⟩, K, Sp⟩ := h
  have r0 : ex_rc w 0 0 = true := ex_rc_o h0 (by decide) (by decide)
  have hb9 : b1 < 1000 ∧ b2 < 1000 := by omega
  have g0 : ∀ k, ex_gf w 0 0 k = [Value.ref 1, .ref 3, .ref 5, .ref 15, .ref b1, .ref b2][k]? := fun k => ex_gf_i h0
  have r5 : ex_rc w 5 4 = true := by
    obtain ⟨pt, cc, br, ic, hl, hr, cs, M, xs, L, n, f, t, sg, hn, bl, ls, v, lss, nss, h5, _⟩ := A
    exact ex_rc_o h5 (by decide) (by decide)
  have T : isTR w 3 4 Q := ⟨R3.1, by decide, by decide⟩
  have E : isEn w 4 Q := ⟨⟨ts, R3.2.1, H3, by omega, hp.2.2.2.1⟩, by decide, by decide⟩
  have mf := c_makeFrom (X := none) A T E (ln_typed hp.2.2.2.2.1)
  have q200 := hp.2.2.2.2.1
  constructor
  · intro f hf
    obtain ⟨w1, a1, F1⟩ := mf.2 f hf
    obtain ⟨l2, f2⟩ := mf_fr F1
    have fl := par_le F1
    have R2 := row_o (w2 := w1) R3 (f2 3 (by decide)) (f2 4 (by decide))
    have r3 : ex_rc w1 3 1 = true := ex_rc_o R2.1 (by decide) (by decide)
    have em := r_empty (X := none) R2
    have o : ∀ j, j ≠ 3 → j ≠ 4 → (rowW w1 3 4 ts 0)[j]? = w1[j]? := fun j x y => rowW_o x y
    have o1 : w1[0]? = some (obj b1 b2) := (f2 0 (by decide)).trans h0
    have g01 : ∀ k, ex_gf w1 0 0 k = [Value.ref 1, .ref 3, .ref 5, .ref 15, .ref b1, .ref b2][k]? := fun k => ex_gf_i o1
    have n1 : ¬ nI f = -1 := nI_n1 (by omega)
    refine ⟨_, ?_, ⟨b1, b2, us, ts, hb, (o 0 (by decide) (by decide)).trans o1, ⟨row_o R1 ((o 1 (by decide) (by decide)).trans (f2 1 (by decide))) ((o 2 (by decide) (by decide)).trans (f2 2 (by decide))), H1, l1⟩, ⟨rowW_is R2 rfl (Nat.zero_le _), holds_nil, l3⟩, ma_o (mf_ma F1) (fun j x y => o j (by omega) (by omega)), ⟨D, pl, ms, sc_o S (fun j x y => (o j (by omega) (by omega)).trans (f2 j (by omega)))⟩, isBl_o K (fun j x y => (o j (by omega) (by omega)).trans (f2 j (by omega))), isSp_o Sp (fun j x y => (o j (by omega) (by omega)).trans (f2 j (by omega)))⟩, by rw [rowW_len]; exact l2, fun j hj => (o j (by omega) (by omega)).trans (f2 j (by omega))⟩
    show ex_go none 7 0 [(0, .ref 0)] [] w = _
    simp (disch := first | assumption | decide) only [s7_0, s7_1, s7_4, s7_5, s7_8, s7_11, s7_12, s7_13, s7_16, s7_19, s7_20, s7_21, s7_24, s7_25, s7_26, s7_29, s7_32, s7_35, s7_36, s7_37, s7_38, s7_41, s7_42, s7_43, s7_44, s7_45, s7_46, s7_49, s7_50, s7_53, s7_56, s7_57, s7_60, s7_63, s7_66, g0, List.getElem?_cons_zero, List.getElem?_cons_succ, Option.bind_some, Option.toList_some, Option.toList_none, List.cons_append, List.nil_append, not_true_eq_false, if_false, if_true, a1, g01, em, if_pos n1, if_neg n1]
  · intro M hM
    obtain ⟨w1, a1, F1, m120⟩ := mf.1 M hM
    obtain ⟨l2, f2, ⟨xs, R6, H6, x6⟩, pt, cc, br, ic, hl, hr, cs, h5⟩ := md_fr F1
    obtain ⟨sc, bM, _⟩ := par_ok hp.2.2.2.1 hM
    have R2 := row_o (w2 := w1) R3 (f2 3 (by decide)) (f2 4 (by decide))
    have r3 : ex_rc w1 3 1 = true := ex_rc_o R2.1 (by decide) (by decide)
    have em := r_empty (X := none) R2
    have o : ∀ j, j ≠ 3 → j ≠ 4 → (rowW w1 3 4 ts 0)[j]? = w1[j]? := fun j x y => rowW_o x y
    have o1 : w1[0]? = some (obj b1 b2) := (f2 0 (by decide)).trans h0
    have g01 : ∀ k, ex_gf w1 0 0 k = [Value.ref 1, .ref 3, .ref 5, .ref 15, .ref b1, .ref b2][k]? := fun k => ex_gf_i o1
    have o2 : (rowW w1 3 4 ts 0)[0]? = some (obj b1 b2) := (o 0 (by decide) (by decide)).trans o1
    have r02 : ex_rc (rowW w1 3 4 ts 0) 0 0 = true := ex_rc_o o2 (by decide) (by decide)
    have g02 : ∀ k, ex_gf (rowW w1 3 4 ts 0) 0 0 k = [Value.ref 1, .ref 3, .ref 5, .ref 15, .ref b1, .ref b2][k]? := fun k => ex_gf_i o2
    have h52 : (rowW w1 3 4 ts 0)[5]? = some (mk pt cc br ic hl hr cs) := (o 5 (by decide) (by decide)).trans h5
    have g5 : ex_gf (rowW w1 3 4 ts 0) 5 4 0 = some (.ref 6) := ex_gf_i h52
    obtain ⟨w3, a3, l3', f3, o3, K3, Sp3⟩ := (c_blk (w := rowW w1 3 4 ts 0) (ts := ts) (ps := us) hb o2 (row_o R6 (o 6 (by decide) (by decide)) (o 7 (by decide) (by decide))) H6 (by decide) (by decide) bM (by omega) (isBl_o K (fun j x y => (o j (by omega) (by omega)).trans (f2 j (by omega)))) (isSp_o Sp (fun j x y => (o j (by omega) (by omega)).trans (f2 j (by omega))))).2 sc
    have g03 : ∀ k, ex_gf w3 0 0 k = [Value.ref 1, .ref 3, .ref 5, .ref 15, .ref b2, .ref b1][k]? := fun k => ex_gf_i o3
    have S3 : isSc w3 w3 (telT B) D pl ms := sc_o S (fun j x y => (f3 j (by omega)).trans ((o j (by omega) (by omega)).trans (f2 j (by omega))))
    have r15 := sc_rc S3
    obtain ⟨D4, pl4, ms4, w4, a4, S4, l4⟩ := c_write (X := none) S3 K3 (by omega) (by omega)
    have f4 : ∀ j, j < 15 ∨ 21 < j → w4[j]? = w3[j]? := fun j hj => S4.2.1 j (by omega)
    have o4 : w4[0]? = some (obj b2 b1) := (f4 0 (by decide)).trans o3
    have g04 : ∀ k, ex_gf w4 0 0 k = [Value.ref 1, .ref 3, .ref 5, .ref 15, .ref b2, .ref b1][k]? := fun k => ex_gf_i o4
    have K4 : isBl w4 b2 M := isBl_o K3 (fun j x y => f4 j (by omega))
    have gb : ex_gf w4 b2 2 0 = some (.ref (b2 + 1)) ∧ ex_gf w4 (b2 + 1) 1 1 = some (.int (nI M.length)) := by
      obtain ⟨us2, ys, zs, Kb, _⟩ := K4
      exact ⟨ex_gf_i Kb.1, ex_gf_i Kb.2.1.1⟩
    have hb99 : b2 + 1 < 1000 := by omega
    have hb98 : b2 < 1000 := by omega
    refine ⟨w4, ?_, ⟨b2, b1, us, ts, by omega, o4, ⟨row_o R1 ((f4 1 (by decide)).trans ((f3 1 (by decide)).trans ((o 1 (by decide) (by decide)).trans (f2 1 (by decide))))) ((f4 2 (by decide)).trans ((f3 2 (by decide)).trans ((o 2 (by decide) (by decide)).trans (f2 2 (by decide))))), H1, l1⟩, ⟨row_o (rowW_is R2 rfl (Nat.zero_le _)) ((f4 3 (by decide)).trans (f3 3 (by decide))) ((f4 4 (by decide)).trans (f3 4 (by decide))), holds_nil, l3⟩, ma_o (md_ma F1) (fun j x y => (f4 j (by omega)).trans ((f3 j (by omega)).trans (o j (by omega) (by omega)))), ⟨D4, pl4, ms4, sc_o S4 (fun j x y => rfl)⟩, K4, isSp_o Sp3 (fun j x y => f4 j (by omega))⟩, ⟨by rw [S4.1, l3', rowW_len]; exact l2, fun j hj => (f4 j (by omega)).trans ((f3 j (by omega)).trans ((o j (by omega) (by omega)).trans (f2 j (by omega))))⟩, l4⟩
    have nn : ¬ ¬ (-1 : Int32) = -1 := fun z => z rfl
    show ex_go none 7 0 [(0, .ref 0)] [] w = _
    simp (disch := first | assumption | decide) only [s7_0, s7_1, s7_4, s7_5, s7_8, s7_11, s7_12, s7_13, s7_16, s7_19, s7_20, s7_21, s7_24, s7_25, s7_26, s7_29, s7_32, s7_35, s7_36, s7_37, s7_38, s7_41, s7_42, s7_43, s7_44, s7_45, s7_46, s7_49, s7_50, s7_53, s7_56, s7_57, s7_60, s7_63, s7_66, g0, List.getElem?_cons_zero, List.getElem?_cons_succ, Option.bind_some, Option.toList_some, Option.toList_none, List.cons_append, List.nil_append, not_true_eq_false, if_false, if_true, a1, g01, em, g02, g5, a3, g03, a4, g04, gb.1, gb.2]
theorem c_exact (hp : pI B P Q) (h : cInv w B P Q) : ∃ w1, ex_call none 14 [.ref 0] w = some (some (.int (if parP (telT B) = .inr B then 1 else 0)), w1) ∧ cInv w1 B P Q ∧ fC w w1 := by
  obtain ⟨b1, b2, us, ts, hb, h0, ⟨R1, H1, l1⟩, ⟨R3, H3, l3⟩, A, ⟨D, pl, ms, S⟩, K, Sp⟩ := h
  have hb9 : b1 < 1000 ∧ b2 < 1000 := by omega
  have g0 : ∀ k, ex_gf w 0 0 k = [Value.ref 1, .ref 3, .ref 5, .ref 15, .ref b1, .ref b2][k]? := fun k => ex_gf_i h0
  have r5 : ex_rc w 5 4 = true := by
    obtain ⟨pt, cc, br, ic, hl, hr, cs, M, xs, L, n, f, t, sg, hn, bl, ls, v, lss, nss, h5, _⟩ := A
    exact ex_rc_o h5 (by decide) (by decide)
  have tkk := tk_tel hp.2.2.2.2.2.2.1 hp.2.2.2.2.2.1
  have tch := tk_ch tkk
  have h808 := hp.2.2.2.2.2.2.2
  obtain ⟨xt, R16, H16, x16⟩ := S.2.2.2.1
  have T : isTR w 16 17 (telT B) := ⟨R16.1, by decide, by decide⟩
  have E : isEn w 17 (telT B) := ⟨⟨xt, R16.2.1, H16, by omega, tch.2⟩, by decide, by decide⟩
  have mf := c_makeFrom (X := none) A T E (ln_told tkk)
  have fin : ∀ w1, isMa w1 → w1.length = w.length → (∀ j, j < 5 ∨ j = 9 ∨ 14 < j → w1[j]? = w[j]?) → cInv w1 B P Q ∧ fC w w1 := by
    intro w1 A1 l2 f2
    exact ⟨⟨b1, b2, us, ts, hb, (f2 0 (by decide)).trans h0, ⟨row_o R1 (f2 1 (by decide)) (f2 2 (by decide)), H1, l1⟩, ⟨row_o R3 (f2 3 (by decide)) (f2 4 (by decide)), H3, l3⟩, A1, ⟨D, pl, ms, sc_o S (fun j x y => f2 j (by omega))⟩, isBl_o K (fun j x y => f2 j (by omega)), isSp_o Sp (fun j x y => f2 j (by omega))⟩, l2, fun j hj => f2 j (by omega)⟩
  cases hP : parP (telT B) with
  | inl f =>
    obtain ⟨w1, a1, F1⟩ := mf.2 f hP
    obtain ⟨l2, f2⟩ := mf_fr F1
    have fl := par_le F1
    have n1 : ¬ nI f = -1 := nI_n1 (by omega)
    refine ⟨w1, ?_, fin w1 (mf_ma F1) l2 f2⟩
    rw [if_neg (fun z => by cases z)]
    show ex_go none 14 0 [(0, .ref 0)] [] w = _
    simp (disch := first | assumption | decide) only [s14_0, s14_1, s14_4, s14_5, s14_8, s14_11, s14_14, s14_15, s14_18, s14_19, s14_22, s14_25, s14_26, s14_29, s14_32, s14_35, s14_38, s14_39, s14_42, s14_43, g0, List.getElem?_cons_zero, List.getElem?_cons_succ, Option.bind_some, Option.toList_some, Option.toList_none, List.cons_append, List.nil_append, not_true_eq_false, if_false, if_true, sc_gT S, a1, if_pos n1]
  | inr M =>
    obtain ⟨w1, a1, F1, m120⟩ := mf.1 M hP
    obtain ⟨l2, f2, ⟨xs, R6, H6, x6⟩, pt, cc, br, ic, hl, hr, cs, h5⟩ := md_fr F1
    obtain ⟨_, bM, _⟩ := par_ok tch.2 hP
    have g01 : ∀ k, ex_gf w1 0 0 k = [Value.ref 1, .ref 3, .ref 5, .ref 15, .ref b1, .ref b2][k]? := fun k => ex_gf_i ((f2 0 (by decide)).trans h0)
    have g5 : ex_gf w1 5 4 0 = some (.ref 6) := ex_gf_i h5
    have K1 : isBl w1 b1 B := isBl_o K (fun j x y => f2 j (by omega))
    obtain ⟨us2, ys, zs, Kb, _⟩ := K1
    have gb : ex_gf w1 b1 2 0 = some (.ref (b1 + 1)) := ex_gf_i Kb.1
    have h120 := hp.2.2.2.2.2.1.2.2.1
    have lk := r_like (X := none) R6 H6 Kb.2.1 Kb.2.2.1 bM hp.2.2.2.2.2.2.1 (by omega) (by omega)
    have r6 : ex_rc w1 6 1 = true := ex_rc_o R6.1 (by decide) (by decide)
    have nn : ¬ ¬ (-1 : Int32) = -1 := fun z => z rfl
    have n1 : ¬ (1 : Int32) = 0 := by decide
    have hb98 : b1 < 1000 := by omega
    refine ⟨w1, ?_, fin w1 (md_ma F1) l2 f2⟩
    show ex_go none 14 0 [(0, .ref 0)] [] w = _
    by_cases c : M = B
    · rw [if_pos c] at lk
      rw [if_pos (by rw [c])]
      simp (disch := first | assumption | decide) only [s14_0, s14_1, s14_4, s14_5, s14_8, s14_11, s14_14, s14_15, s14_18, s14_19, s14_22, s14_25, s14_26, s14_29, s14_32, s14_35, s14_38, s14_39, s14_42, s14_43, g0, List.getElem?_cons_zero, List.getElem?_cons_succ, Option.bind_some, Option.toList_some, Option.toList_none, List.cons_append, List.nil_append, not_true_eq_false, if_false, if_true, sc_gT S, a1, g01, g5, gb, lk, if_neg n1]
    · rw [if_neg c] at lk
      rw [if_neg (fun z => c (Sum.inr.inj z))]
      simp (disch := first | assumption | decide) only [s14_0, s14_1, s14_4, s14_5, s14_8, s14_11, s14_14, s14_15, s14_18, s14_19, s14_22, s14_25, s14_26, s14_29, s14_32, s14_35, s14_38, s14_39, s14_42, s14_43, g0, List.getElem?_cons_zero, List.getElem?_cons_succ, Option.bind_some, Option.toList_some, Option.toList_none, List.cons_append, List.nil_append, not_true_eq_false, if_false, if_true, sc_gT S, a1, g01, g5, gb, lk]
end MAKE5
