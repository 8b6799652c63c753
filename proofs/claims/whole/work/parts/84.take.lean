/-! take -/
section TAKE
variable {w : ex_W} {B P Q : List Nat}
/-- the class takes bytes that are a block -/
theorem c_blk {b1 b2 h c : Nat} {us ts ps : List Int32} {N : List Nat} (hb : (b1 = 22 ∧ b2 = 27) ∨ (b1 = 27 ∧ b2 = 22)) (h0 : w[0]? = some (obj b1 b2)) (R : isRow w h c us N.length) (H : holds us N) (hh : h < 15) (hc : c < 15) (hN : ∀ j, N.getD j 0 < 256) (hl : N.length ≤ 124) (K : isBl w b1 B) (Sp : isSp w b2) : (∀ f, scanN N = some f → ∃ w2, ex_call none 4 [.ref 0, .ref h] w = some (some (.int (nI f)), w2) ∧ w2.length = w.length ∧ (∀ j, (0 < j ∧ j < 22) ∨ 31 < j → w2[j]? = w[j]?) ∧ w2[0]? = some (obj b1 b2) ∧ isBl w2 b1 B ∧ isSp w2 b2) ∧ (scanN N = none → ∃ w2, ex_call none 4 [.ref 0, .ref h] w = some (some (.int (-1)), w2) ∧ w2.length = w.length ∧ (∀ j, (0 < j ∧ j < 22) ∨ 31 < j → w2[j]? = w[j]?) ∧ w2[0]? = some (obj b2 b1) ∧ isBl w2 b2 N ∧ isSp w2 b1) := by
  obtain ⟨w2, l2, f2, s1, s2⟩ := x_adopt (X := none) h0 (by omega) (by omega) Sp R H hN hl (by omega) (by omega)
  have K2 : isBl w2 b1 B := isBl_o K (fun j x y => f2 j (by omega) (by omega))
  constructor
  · intro f hf
    obtain ⟨a1, a2, a3⟩ := s1 f hf
    exact ⟨w2, a1, l2, fun j hj => f2 j (by omega) (by omega), a2, K2, a3⟩
  · intro hf
    obtain ⟨a1, a2, a3⟩ := s2 hf
    exact ⟨w2, a1, l2, fun j hj => f2 j (by omega) (by omega), a2, a3, isBl_sp K2⟩
theorem c_take (hp : pI B P Q) (h : cInv w B P Q) : (∀ f, scanN P = some f → ∃ w1, ex_call none 3 [.ref 0] w = some (some (.int (-1 - nI f)), w1) ∧ cInv w1 B [] Q ∧ fC w w1) ∧ (scanN P = none → ∃ w1, ex_call none 3 [.ref 0] w = some (some (.int (nI (telT P).length)), w1) ∧ cInv w1 P [] Q ∧ fC w w1 ∧ (telT P).length ≤ 808) := by
  obtain ⟨b1, b2, us, ts, hb, h0, ⟨R1, H1, l1⟩, ⟨R3, H3, l3⟩, A, ⟨D, pl, ms, S⟩, K, Sp⟩ := h
  have bk := c_blk (ts := ts) (ps := us) hb h0 R1 H1 (by decide) (by decide) hp.1 hp.2.1 K Sp
  have r0 : ex_rc w 0 0 = true := ex_rc_o h0 (by decide) (by decide)
  have g0 : ∀ k, ex_gf w 0 0 k = [Value.ref 1, .ref 3, .ref 5, .ref 15, .ref b1, .ref b2][k]? := fun k => ex_gf_i h0
  have hb9 : b1 < 1000 ∧ b2 < 1000 := by omega
  constructor
  · intro f hf
    obtain ⟨w2, a2, l2, f2, o2, K2, Sp2⟩ := bk.1 f hf
    have R2 := row_o (w2 := w2) R1 (f2 1 (by decide)) (f2 2 (by decide))
    have r1 : ex_rc w2 1 1 = true := ex_rc_o R2.1 (by decide) (by decide)
    have em := r_empty (X := none) R2
    have o : ∀ j, j ≠ 1 → j ≠ 2 → (rowW w2 1 2 us 0)[j]? = w2[j]? := fun j x y => rowW_o x y
    have g02 : ∀ k, ex_gf w2 0 0 k = [Value.ref 1, .ref 3, .ref 5, .ref 15, .ref b1, .ref b2][k]? := fun k => ex_gf_i o2
    have fl := scanN_le hf
    have n1 : ¬ nI f = -1 := nI_n1 (by have := hp.2.1; omega)
    refine ⟨_, ?_, ⟨b1, b2, us, ts, hb, (o 0 (by decide) (by decide)).trans o2, ⟨rowW_is R2 rfl (Nat.zero_le _), holds_nil, l1⟩, ⟨row_o R3 ((o 3 (by decide) (by decide)).trans (f2 3 (by decide))) ((o 4 (by decide) (by decide)).trans (f2 4 (by decide))), H3, l3⟩, ma_o A (fun j x y => (o j (by omega) (by omega)).trans (f2 j (by omega))), ⟨D, pl, ms, sc_o S (fun j x y => (o j (by omega) (by omega)).trans (f2 j (by omega)))⟩, isBl_o K2 (fun j x y => o j (by omega) (by omega)), isSp_o Sp2 (fun j x y => o j (by omega) (by omega))⟩, by rw [rowW_len]; exact l2, fun j hj => (o j (by omega) (by omega)).trans (f2 j (by omega))⟩
    show ex_go none 3 0 [(0, .ref 0)] [] w = _
    simp (disch := first | assumption | decide) only [s3_0, s3_1, s3_2, s3_5, s3_8, s3_9, s3_10, s3_13, s3_16, s3_17, s3_18, s3_21, s3_22, s3_23, s3_24, s3_25, s3_26, s3_29, s3_30, s3_33, s3_36, s3_37, s3_40, s3_43, s3_46, g0, List.getElem?_cons_zero, List.getElem?_cons_succ, Option.bind_some, Option.toList_some, Option.toList_none, List.cons_append, List.nil_append, not_true_eq_false, if_false, if_true, a2, g02, em, if_neg n1]
  · intro hf
    obtain ⟨w2, a2, l2, f2, o2, K2, Sp2⟩ := bk.2 hf
    have R2 := row_o (w2 := w2) R1 (f2 1 (by decide)) (f2 2 (by decide))
    have r1 : ex_rc w2 1 1 = true := ex_rc_o R2.1 (by decide) (by decide)
    have em := r_empty (X := none) R2
    have o : ∀ j, j ≠ 1 → j ≠ 2 → (rowW w2 1 2 us 0)[j]? = w2[j]? := fun j x y => rowW_o x y
    have g02 : ∀ k, ex_gf w2 0 0 k = [Value.ref 1, .ref 3, .ref 5, .ref 15, .ref b2, .ref b1][k]? := fun k => ex_gf_i o2
    have o3 : (rowW w2 1 2 us 0)[0]? = some (obj b2 b1) := (o 0 (by decide) (by decide)).trans o2
    have g03 : ∀ k, ex_gf (rowW w2 1 2 us 0) 0 0 k = [Value.ref 1, .ref 3, .ref 5, .ref 15, .ref b2, .ref b1][k]? := fun k => ex_gf_i o3
    have S3 : isSc (rowW w2 1 2 us 0) (rowW w2 1 2 us 0) (telT B) D pl ms := sc_o S (fun j x y => (o j (by omega) (by omega)).trans (f2 j (by omega)))
    have K3 : isBl (rowW w2 1 2 us 0) b2 P := isBl_o K2 (fun j x y => o j (by omega) (by omega))
    have r15 := sc_rc S3
    obtain ⟨D4, pl4, ms4, w4, a4, S4, l4⟩ := c_write (X := none) S3 K3 (by omega) (by omega)
    have f4 : ∀ j, j < 15 ∨ 21 < j → w4[j]? = (rowW w2 1 2 us 0)[j]? := fun j hj => S4.2.1 j (by omega)
    have g04 : ∀ k, ex_gf w4 0 0 k = [Value.ref 1, .ref 3, .ref 5, .ref 15, .ref b2, .ref b1][k]? := fun k => ex_gf_i ((f4 0 (by decide)).trans o3)
    refine ⟨w4, ?_, ⟨b2, b1, us, ts, by omega, (f4 0 (by decide)).trans o3, ⟨row_o (rowW_is R2 rfl (Nat.zero_le _)) (f4 1 (by decide)) (f4 2 (by decide)), holds_nil, l1⟩, ⟨row_o R3 ((f4 3 (by decide)).trans ((o 3 (by decide) (by decide)).trans (f2 3 (by decide)))) ((f4 4 (by decide)).trans ((o 4 (by decide) (by decide)).trans (f2 4 (by decide)))), H3, l3⟩, ma_o A (fun j x y => (f4 j (by omega)).trans ((o j (by omega) (by omega)).trans (f2 j (by omega)))), ⟨D4, pl4, ms4, sc_o S4 (fun j x y => rfl)⟩, isBl_o K3 (fun j x y => f4 j (by omega)), isSp_o Sp2 (fun j x y => (f4 j (by omega)).trans (o j (by omega) (by omega)))⟩, ⟨by rw [S4.1, rowW_len]; exact l2, fun j hj => (f4 j (by omega)).trans ((o j (by omega) (by omega)).trans (f2 j (by omega)))⟩, l4⟩
    show ex_go none 3 0 [(0, .ref 0)] [] w = _
    simp (disch := first | assumption | decide) only [s3_0, s3_1, s3_2, s3_5, s3_8, s3_9, s3_10, s3_13, s3_16, s3_17, s3_18, s3_21, s3_22, s3_23, s3_24, s3_25, s3_26, s3_29, s3_30, s3_33, s3_36, s3_37, s3_40, s3_43, s3_46, g0, List.getElem?_cons_zero, List.getElem?_cons_succ, Option.bind_some, Option.toList_some, Option.toList_none, List.cons_append, List.nil_append, not_true_eq_false, if_false, if_true, a2, g02, em, g03, a4, g04, sc_gT S4, sc_nT S4]
theorem upd_same {m : Nat → Int32} {k : Nat} {x : Int32} (h : m k = x) : upd m k x = m := by
  funext j
  unfold upd
  split
  next e => rw [e]; exact h.symm
  next => rfl
/-- the other object tells its block anew -/
theorem r_tell {m : Nat → Int32} {v : Int64} {bs : List Int32} {N T0 : List Nat} (h32 : w[32]? = some (.inl (8, mo m v))) (h9 : m 9 = nI T0.length) (c1 : w[33]? = some (.inr (0, bs))) (c1l : bs.length = 130) (c1h : holds bs N) (hN : ∀ j, N.getD j 0 < 256) (H : shape N) (c5 : ∃ xs, w[37]? = some (.inr (0, xs)) ∧ holds xs T0 ∧ xs.length = 1000) (c6 : ∃ ds, w[38]? = some (.inr (0, ds)) ∧ ds.length = 20) (c7 : ∃ bg, w[39]? = some (.inr (1, bg)) ∧ bg.length = 121) (c8 : ∃ ln, w[40]? = some (.inr (0, ln)) ∧ ln.length = 121) : ∃ w2, ex_call none 107 [.ref 32] w = some (none, w2) ∧ w2.length = w.length ∧ (∀ j, j ≠ 32 → j < 37 ∨ 40 < j → w2[j]? = w[j]?) ∧ w2[32]? = some (.inl (8, mo (upd m 9 (nI (telT N).length)) v)) ∧ (∃ xs, w2[37]? = some (.inr (0, xs)) ∧ holds xs (telT N) ∧ xs.length = 1000) ∧ (∃ ds, w2[38]? = some (.inr (0, ds)) ∧ ds.length = 20) ∧ (∃ bg, w2[39]? = some (.inr (1, bg)) ∧ bg.length = 121) ∧ (∃ ln, w2[40]? = some (.inr (0, ln)) ∧ ln.length = 121) := by
  obtain ⟨xs, x1, x2, x3⟩ := c5
  obtain ⟨ds, d1, d2⟩ := c6
  obtain ⟨bg, g1, g2⟩ := c7
  obtain ⟨ln, n1, n2⟩ := c8
  have S : isTx w w m v T0 ds bg ln := ⟨rfl, fun j _ _ => rfl, by rw [upd_same h9]; exact h32, ⟨xs, x1, x2, x3⟩, d1, d2, g1, g2, n1, n2⟩
  obtain ⟨ds2, bg2, ln2, w2, a2, s1, s2, s3, s4, s5, s6, s7, s8, s9, s10⟩ := y_tell (X := none) S ⟨c1, c1l, c1h, hN⟩ H
  exact ⟨w2, a2, s1, s2, s3, s4, ⟨ds2, s5, s6⟩, ⟨bg2, s7, s8⟩, ⟨ln2, s9, s10⟩⟩
theorem y_copyLoop {m : Nat → Int32} {v : Int64} {ps : List Int32} (hP : holds ps P) (hpl : ps.length = 124) : ∀ (k i : Nat) (bs : List Int32) (w : ex_W), i + k = P.length → w[32]? = some (.inl (8, mo m v)) → w[35]? = some (.inr (0, ps)) → w[33]? = some (.inr (0, bs)) → bs.length = 130 → (∀ j, j < i → bs.getD j 0 = nI (P.getD j 0)) → ∃ bs2, bs2.length = 130 ∧ holds bs2 P ∧ ex_go none 129 113 [(0, .ref 32), (2, .int (nI P.length)), (3, .int (nI i))] [] w = ex_go none 129 136 [(0, .ref 32)] [] (w.set 33 (.inr (0, bs2))) := by
  have hpp := hP.1
  intro k
  induction k with
  | zero =>
    intro i bs w hi h32 h35 h33 hl hh
    have e : nI P.length ≤ nI i := nI_le (by omega) (by omega)
    refine ⟨bs, hl, ⟨by omega, fun j hj => hh j (by omega)⟩, ?_⟩
    rw [set_id h33]
    simp (disch := first | assumption | decide) only [s129_113, s129_114, s129_115, if_pos e]
  | succ k ih =>
    intro i bs w hi h32 h35 h33 hl hh
    have e : ¬ nI P.length ≤ nI i := nI_ge (by omega) (by omega)
    have g0 : ex_gf w 32 8 0 = some (.ref 33) := (ex_gf_i h32).trans mo_0
    have g4 : ex_gf w 32 8 4 = some (.ref 35) := (ex_gf_i h32).trans mo_4
    have al := ex_al_i (kd := 0) (n := i) h35 (by omega) (by omega)
    rw [hP.2 i (by omega)] at al
    have as := ex_as_i (kd := 0) (n := i) (x := nI (P.getD i 0)) h33 (by omega) (by omega)
    obtain ⟨bs2, b1, b2, b3⟩ := ih (i + 1) (bs.set i (nI (P.getD i 0))) (w.set 33 (.inr (0, bs.set i (nI (P.getD i 0))))) (by omega) (ex_set_o (by decide) h32) (ex_set_o (by decide) h35) (ex_set_s h33) (by rw [List.length_set]; exact hl) (by
      intro j hj
      rw [set_get (by omega)]
      by_cases c : i = j
      · rw [if_pos c, c]
      · rw [if_neg c]; exact hh j (by omega))
    rw [List.set_set] at b3
    refine ⟨bs2, b1, b2, ?_⟩
    rw [← b3, s129_113]
    simp (disch := first | assumption | decide) only [s129_114, s129_115, s129_118, s129_119, s129_122, s129_123, s129_124, s129_127, s129_128, s129_129, s129_130, s129_133, if_neg e, g0, g4, List.getElem?_cons_zero, List.getElem?_cons_succ, Option.bind_some, Option.toList_some, Option.toList_none, List.cons_append, List.nil_append, not_true_eq_false, if_false, if_true, al, as, nI_1]
theorem r_take (hp : pI B P Q) (h : rInv w B P Q) : (∀ f, scanN P = some f → ∃ w1, ex_call none 129 [.ref 32] w = some (some (.int (-1 - nI f)), w1) ∧ rInv w1 B [] Q ∧ fR w w1) ∧ (scanN P = none → ∃ w1, ex_call none 129 [.ref 32] w = some (some (.int (nI (telT P).length)), w1) ∧ rInv w1 P [] Q ∧ fR w w1) := by
  obtain ⟨⟨m, v, ls, ns, g1, g2, g3, g4, g5, g6, g7, g8⟩, ⟨bs, c1, c1l, c1h⟩, ⟨ms, c2⟩, ⟨ps, c3, c3l, c3h⟩, ⟨qs, c4⟩, c5, c6, c7, c8, ⟨ss, c9⟩⟩ := h
  have M : isM w m v ps P := ⟨g1, c3, c3l, c3h, hp.1, g6⟩
  have ts := y_takeScan (X := none) M
  have fld : ∀ x : Int32, (w.set 32 (.inl (8, mo (upd m 18 x) v)))[32]? = some (.inl (8, mo (upd m 18 x) v)) := fun x => ex_set_s g1
  have pf5 : ∀ x : Int32, ex_pf (w.set 32 (.inl (8, mo (upd m 18 x) v))) 32 8 5 (.int 0) = some (w.set 32 (.inl (8, mo (upd (upd m 18 x) 5 0) v))) := by
    intro x
    have := ex_pf_i (k := 5) (v := .int 0) (fld x) (by rw [mo_len]; decide)
    rw [mo_s5, List.set_set] at this
    exact this
  have fld2 : ∀ x : Int32, (w.set 32 (.inl (8, mo (upd (upd m 18 x) 5 0) v)))[32]? = some (.inl (8, mo (upd (upd m 18 x) 5 0) v)) := fun x => ex_set_s g1
  have gw : ∀ x : Int32, ex_gf (w.set 32 (.inl (8, mo (upd m 18 x) v))) 32 8 5 = some (.int (nI P.length)) := fun x => by
    rw [ex_gf_i (fld x), mo_5, ← g6]
    rfl
  have gf : ∀ x : Int32, ex_gf (w.set 32 (.inl (8, mo (upd (upd m 18 x) 5 0) v))) 32 8 18 = some (.int x) := fun x => by
    rw [ex_gf_i (fld2 x), mo_18]
    rfl
  have o : ∀ (c : ex_C) (j : Nat), j ≠ 32 → (w.set 32 c)[j]? = w[j]? := fun c j x => List.getElem?_set_ne (Ne.symm x)
  constructor
  · intro f hf
    obtain ⟨f124, e⟩ := ts.2 f hf
    have n0 : ¬ nI f < 0 := nI_pos (by omega)
    refine ⟨w.set 32 (.inl (8, mo (upd (upd m 18 (nI f)) 5 0) v)), ?_, ⟨⟨upd (upd m 18 (nI f)) 5 0, v, ls, ns, fld2 _, g2, g3, rl_o g4 (fun j x y => o _ j (by omega)), g5, rfl, g7, g8⟩, ⟨bs, (o _ 33 (by decide)).trans c1, c1l, c1h⟩, ⟨ms, (o _ 34 (by decide)).trans c2.1, c2.2⟩, ⟨ps, (o _ 35 (by decide)).trans c3, c3l, holds_nil⟩, ⟨qs, (o _ 36 (by decide)).trans c4.1, c4.2⟩, ?_, ?_, ?_, ?_, ⟨ss, (o _ 41 (by decide)).trans c9.1, c9.2⟩⟩, List.length_set, fun j hj => o _ j (by omega)⟩
    · rw [e]
      unfold mF
      simp (disch := first | assumption | decide) only [s129_82, s129_83, s129_86, s129_87, s129_88, s129_89, s129_92, s129_93, s129_96, s129_99, s129_100, s129_101, s129_104, s129_105, gw, List.getElem?_cons_zero, List.getElem?_cons_succ, Option.bind_some, Option.toList_some, Option.toList_none, List.cons_append, List.nil_append, not_true_eq_false, if_false, if_true, pf5, gf, if_neg n0]
    · obtain ⟨xs, x⟩ := c5
      exact ⟨xs, (o _ 37 (by decide)).trans x.1, x.2⟩
    · obtain ⟨xs, x⟩ := c6
      exact ⟨xs, (o _ 38 (by decide)).trans x.1, x.2⟩
    · obtain ⟨xs, x⟩ := c7
      exact ⟨xs, (o _ 39 (by decide)).trans x.1, x.2⟩
    · obtain ⟨xs, x⟩ := c8
      exact ⟨xs, (o _ 40 (by decide)).trans x.1, x.2⟩
  · intro hf
    have e := ts.1 hf
    have n0 : (-1 : Int32) < 0 := by decide
    have H := scan_shape hf
    have pf1 : ex_pf (w.set 32 (.inl (8, mo (upd (upd m 18 (-1)) 5 0) v))) 32 8 1 (.int (nI P.length)) = some (w.set 32 (.inl (8, mo (upd (upd (upd m 18 (-1)) 5 0) 1 (nI P.length)) v))) := by
      have := ex_pf_i (k := 1) (v := .int (nI P.length)) (fld2 (-1)) (by rw [mo_len]; decide)
      rw [mo_s1, List.set_set] at this
      exact this
    have h32 : (w.set 32 (.inl (8, mo (upd (upd (upd m 18 (-1)) 5 0) 1 (nI P.length)) v)))[32]? = some (.inl (8, mo (upd (upd (upd m 18 (-1)) 5 0) 1 (nI P.length)) v)) := ex_set_s g1
    obtain ⟨bs2, b1, b2, b3⟩ := y_copyLoop c3h c3l P.length 0 bs (w.set 32 (.inl (8, mo (upd (upd (upd m 18 (-1)) 5 0) 1 (nI P.length)) v))) (by omega) h32 ((o _ 35 (by decide)).trans c3) ((o _ 33 (by decide)).trans c1) c1l (fun j hj => by omega)
    have b3 : ex_go none 129 113 [(0, .ref 32), (2, .int (nI P.length)), (3, .int 0)] [] (w.set 32 (.inl (8, mo (upd (upd (upd m 18 (-1)) 5 0) 1 (nI P.length)) v))) = _ := b3
    have o2 : ∀ j, j ≠ 32 → j ≠ 33 → ((w.set 32 (.inl (8, mo (upd (upd (upd m 18 (-1)) 5 0) 1 (nI P.length)) v))).set 33 (.inr (0, bs2)))[j]? = w[j]? := by
      intro j x y
      rw [List.getElem?_set_ne (Ne.symm y)]
      exact o _ j x
    have h32' : ((w.set 32 (.inl (8, mo (upd (upd (upd m 18 (-1)) 5 0) 1 (nI P.length)) v))).set 33 (.inr (0, bs2)))[32]? = some (.inl (8, mo (upd (upd (upd m 18 (-1)) 5 0) 1 (nI P.length)) v)) := ex_set_o (by decide) h32
    have rc : ex_rc ((w.set 32 (.inl (8, mo (upd (upd (upd m 18 (-1)) 5 0) 1 (nI P.length)) v))).set 33 (.inr (0, bs2))) 32 8 = true := ex_rc_o h32' (by decide) (by decide)
    obtain ⟨w4, a4, l4, f4, t1, t2, t3, t4, t5⟩ := r_tell (T0 := telT B) h32' (by show m 9 = _; exact g8) (ex_set_s ((o _ 33 (by decide)).trans c1)) b1 b2 hp.1 H (by
      obtain ⟨xs, x⟩ := c5
      exact ⟨xs, (o2 37 (by decide) (by decide)).trans x.1, x.2⟩) (by
      obtain ⟨xs, x⟩ := c6
      exact ⟨xs, (o2 38 (by decide) (by decide)).trans x.1, x.2⟩) (by
      obtain ⟨xs, x⟩ := c7
      exact ⟨xs, (o2 39 (by decide) (by decide)).trans x.1, x.2⟩) (by
      obtain ⟨xs, x⟩ := c8
      exact ⟨xs, (o2 40 (by decide) (by decide)).trans x.1, x.2⟩)
    have f5 : ∀ j, j ≠ 32 → j ≠ 33 → j < 37 ∨ 40 < j → w4[j]? = w[j]? := fun j x y z => (f4 j x z).trans (o2 j x y)
    have g9 : ex_gf w4 32 8 9 = some (.int (nI (telT P).length)) := by
      rw [ex_gf_i t1, mo_9, pk_us]
    refine ⟨w4, ?_, ⟨⟨_, v, ls, ns, t1, g2, g3, rl_o g4 (fun j x y => f5 j (by omega) (by omega) (by omega)), rfl, rfl, g7, pk_us⟩, ⟨bs2, (f4 33 (by decide) (by decide)).trans (ex_set_s ((o _ 33 (by decide)).trans c1)), b1, b2⟩, ⟨ms, (f5 34 (by decide) (by decide) (by decide)).trans c2.1, c2.2⟩, ⟨ps, (f5 35 (by decide) (by decide) (by decide)).trans c3, c3l, holds_nil⟩, ⟨qs, (f5 36 (by decide) (by decide) (by decide)).trans c4.1, c4.2⟩, t2, t3, t4, t5, ⟨ss, (f5 41 (by decide) (by decide) (by decide)).trans c9.1, c9.2⟩⟩, by rw [l4, List.length_set, List.length_set], fun j hj => f5 j (by omega) (by omega) (by omega)⟩
    rw [e]
    unfold mF
    simp (disch := first | assumption | decide) only [s129_82, s129_83, s129_86, s129_87, s129_88, s129_89, s129_92, s129_93, s129_96, s129_99, s129_100, s129_101, s129_104, s129_105, s129_106, s129_107, s129_108, s129_111, s129_112, gw, List.getElem?_cons_zero, List.getElem?_cons_succ, Option.bind_some, Option.toList_some, Option.toList_none, List.cons_append, List.nil_append, not_true_eq_false, if_false, if_true, pf5, gf, if_pos n0, pf1, b3]
    simp (disch := first | assumption | decide) only [s129_136, s129_137, s129_140, s129_141, s129_144, a4, List.getElem?_cons_zero, List.getElem?_cons_succ, Option.bind_some, Option.toList_some, Option.toList_none, List.cons_append, List.nil_append, not_true_eq_false, if_false, if_true, g9]
theorem s_take (hl : w.length = 46) (hp : pI B P Q) (h1 : cInv w B P Q) (h2 : rInv w B P Q) : pr 3 129 [] w Inv := by
  have ct := c_take hp h1
  cases hf : scanN P with
  | some f => exact pr_of (B2 := B) (P2 := []) (Q2 := Q) hl h1 h2 ⟨fun j => by rw [getD_out (Nat.zero_le _)]; decide, Nat.zero_le _, hp.2.2⟩ (ct.1 f hf) (fun w h => (r_take hp h).1 f hf)
  | none =>
    obtain ⟨w1, a1, a2, a3, a4⟩ := ct.2 hf
    exact pr_of (B2 := P) (P2 := []) (Q2 := Q) hl h1 h2 ⟨fun j => by rw [getD_out (Nat.zero_le _)]; decide, Nat.zero_le _, hp.2.2.1, hp.2.2.2.1, hp.2.2.2.2.1, scan_shape hf, hp.1, a4⟩ ⟨w1, a1, a2, a3⟩ (fun w h => (r_take hp h).2 hf)
end TAKE
