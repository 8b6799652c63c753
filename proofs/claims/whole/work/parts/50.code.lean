/-! a code's text -/
def plT (B : List Nat) (f : Nat) (T : Nat → Bool) (L : List Nat) (i : Nat) : List Nat := if f + i ∈ L then lbl T i ++ insT B f T (f + i) ++ [10] else []
def plsT (B : List Nat) (f : Nat) (T : Nat → Bool) (L : List Nat) : Nat → Nat → List Nat
  | 0, _ => []
  | r + 1, i => plT B f T L i ++ plsT B f T L r (i + 1)
def cN (B : List Nat) (p : Nat) : Nat := B.getD (p + 2) 0
def cL (B : List Nat) (p : Nat) : List Nat := stL B (p + 3 + cN B p) 120 (p + 3)
noncomputable def cT (B : List Nat) (p : Nat) : Nat → Bool := Tb B (p + 3) (cN B p) (cL B p)
noncomputable def bodT (B : List Nat) (p : Nat) : List Nat := if clearN B p = true then plsT B (p + 3) (cT B p) (cL B p) (cN B p) 0 else txN 20 ++ [32] ++ bytesT B (p + 3) (cN B p) ++ [10]
def codH (B : List Nat) (p : Nat) : List Nat := txN 18 ++ [32] ++ nB (B.getD p 0) ++ [32] ++ nB (B.getD (p + 1) 0) ++ [32] ++ txN 19 ++ [10]
noncomputable def codT0 (B : List Nat) (p : Nat) : List Nat := codH B p ++ bodT B p ++ txN 21
section CODE
variable {X : Option (List Int32)} {w0 w : ex_W} {t D : List Nat} {pl : Nat} {ms : List Int32} {q a : Nat} {us : List Int32} {B : List Nat}
theorem c_writePlace (Y : isBy w0 q a us B) {f n i : Nat} {L : List Nat} {T : Nat → Bool} (S : isSc w0 w t D n ms) (hf : f < 2 ^ 19) (hn : n ≤ 120) (hi : i < n) (hT : ∀ z, T z = true → z < n ∧ f + z ∈ L) (hL : okL B f n L) (Mk : lnS f n L T n ms) (hl : t.length + (plT B f T L i).length ≤ 808) : ∃ (D2 : List Nat) (w2 : ex_W), ex_call X 81 [.ref 15, .ref q, .int (nI f), .int (nI i)] w = some (none, w2) ∧ isSc w0 w2 (t ++ plT B f T L i) D2 n ms := by
  have rc := sc_rc S
  have rB := sc_rB S Y
  have rM := sc_mr S
  have cl := cntB_le T i
  show ∃ (D2 : List Nat) (w2 : ex_W), ex_go X 81 0 [(0, .ref 15), (1, .ref q), (2, .int (nI f)), (3, .int (nI i))] [] w = _ ∧ _
  unfold plT at hl ⊢
  by_cases hp : f + i ∈ L
  · rw [if_pos hp] at hl ⊢
    have st1 : ∃ D2 w2, ex_go X 81 0 [(0, .ref 15), (1, .ref q), (2, .int (nI f)), (3, .int (nI i))] [] w = ex_go X 81 29 [(0, .ref 15), (1, .ref q), (2, .int (nI f)), (3, .int (nI i))] [] w2 ∧ isSc w0 w2 (t ++ lbl T i) D2 n ms := by
      unfold lbl at hl ⊢
      cases hTi : T i with
      | true =>
        rw [hTi, if_pos rfl] at hl
        rw [if_pos rfl]
        unfold nB at hl ⊢
        simp only [List.length_append, List.length_cons, List.length_nil] at hl
        have ly := c_lineYes (X := X) hn S Mk hi hTi
        have e1 : ¬ nI (cntB T i) = -1 := by
          intro y
          have := nI_pos (n := cntB T i) (by omega)
          rw [y] at this
          exact this (by decide)
        obtain ⟨D2, w2, a1, S2⟩ := c_number (X := X) (sg := 64) (v := (nI (cntB T i)).toInt64) S (by decide) (by rw [if_neg (by decide)]; simp only [List.length_append, List.length_cons, List.length_nil]; omega)
        have a1 : ex_call X 72 [.ref 15, .int 64, .long (nI (cntB T i)).toInt64] w = some (none, w2) := a1
        rw [if_neg (by decide)] at S2
        obtain ⟨w3, a3, S3⟩ := c_endLine (X := X) S2 (by simp only [List.length_append, List.length_cons, List.length_nil]; omega)
        have rc2 := sc_rc S2
        refine ⟨D2, w3, ?_, by simp only [List.append_assoc, List.cons_append, List.nil_append] at S3 ⊢; exact S3⟩
        simp (disch := first | assumption | decide) only [s81_0, s81_1, s81_4, s81_5, s81_8, s81_10, s81_12, s81_13, s81_16, s81_17, s81_19, s81_21, s81_22, s81_25, s81_26, sc_gM S, List.getElem?_cons_zero, List.getElem?_cons_succ, Option.bind_some, Option.toList_some, Option.toList_none, List.cons_append, List.nil_append, ly, if_neg e1, a1, a3]
      | false =>
        rw [if_neg Bool.false_ne_true, List.append_nil]
        have ln := c_lineNo (X := X) (x := nI i) hn S Mk (by
          intro z hz y
          have := (nI_eq (by omega) (by omega)).mp y
          subst this
          exact hTi)
        refine ⟨D, w, ?_, S⟩
        simp (disch := first | assumption | decide) only [s81_0, s81_1, s81_4, s81_5, s81_8, s81_10, s81_12, s81_13, s81_16, s81_17, s81_19, s81_21, s81_22, s81_25, s81_26, sc_gM S, List.getElem?_cons_zero, List.getElem?_cons_succ, Option.bind_some, Option.toList_some, Option.toList_none, List.cons_append, List.nil_append, ln, if_true]
    obtain ⟨D2, w2, a2, S2⟩ := st1
    simp only [List.length_append, List.length_singleton] at hl
    have rc2 := sc_rc S2
    have rB2 := sc_rB S2 Y
    have rM2 := sc_mr S2
    have is := c_isStart (X := X) hn S2 Mk hi
    rw [if_pos hp] at is
    have n1 : ¬ (1 : Int32) = 0 := by decide
    obtain ⟨D3, w3, a3, S3⟩ := c_instr (X := X) S2 Y hf hn hi (fun z hz => (hT z hz).1) (hL _ hp).2.2.2 Mk (by simp only [List.length_append]; omega)
    obtain ⟨w4, a4, S4⟩ := c_endLine (X := X) S3 (by simp only [List.length_append]; omega)
    have rc3 := sc_rc S3
    refine ⟨D3, w4, ?_, by simp only [List.append_assoc, List.cons_append, List.nil_append] at S4 ⊢; exact S4⟩
    rw [a2]
    simp (disch := first | assumption | decide) only [s81_29, s81_30, s81_33, s81_34, s81_37, s81_40, s81_41, s81_42, s81_43, s81_44, s81_47, s81_48, s81_51, sc_gM S2, List.getElem?_cons_zero, List.getElem?_cons_succ, Option.bind_some, Option.toList_some, Option.toList_none, List.cons_append, List.nil_append, is, if_neg n1, a3, a4]
  · rw [if_neg hp] at hl ⊢
    rw [List.append_nil]
    have is := c_isStart (X := X) hn S Mk hi
    rw [if_neg hp] at is
    have ln := c_lineNo (X := X) (x := nI i) hn S Mk (by
      intro z hz y
      have := (nI_eq (by omega) (by omega)).mp y
      subst this
      cases hTi : T i with
      | false => rfl
      | true => exact absurd (hT i hTi).2 hp)
    refine ⟨D, w, ?_, S⟩
    simp (disch := first | assumption | decide) only [s81_0, s81_1, s81_4, s81_5, s81_8, s81_10, s81_12, s81_13, s81_16, s81_17, s81_19, s81_21, s81_22, s81_25, s81_26, s81_29, s81_30, s81_33, s81_34, s81_37, s81_40, s81_41, s81_42, s81_43, s81_44, s81_47, s81_48, s81_51, sc_gM S, List.getElem?_cons_zero, List.getElem?_cons_succ, Option.bind_some, Option.toList_some, Option.toList_none, List.cons_append, List.nil_append, ln, if_true, is]
theorem c_placesLoop (Y : isBy w0 q a us B) {f n : Nat} {L : List Nat} {T : Nat → Bool} (hf : f < 2 ^ 19) (hn : n ≤ 120) (hT : ∀ z, T z = true → z < n ∧ f + z ∈ L) (hL : okL B f n L) (Mk : lnS f n L T n ms) : ∀ (r i : Nat) (t D : List Nat) (w : ex_W), i + r = n → isSc w0 w t D n ms → t.length + (plsT B f T L r i).length ≤ 808 → ∃ (D2 : List Nat) (w2 : ex_W), ex_go X 80 98 [(0, .ref 15), (3, .ref q), (4, .int (nI f)), (5, .int (nI (f + n))), (6, .int (nI i))] [] w = ex_go X 80 148 [(0, .ref 15)] [] w2 ∧ isSc w0 w2 (t ++ plsT B f T L r i) D2 n ms := by
  have sb : nI (f + n) - nI f = nI n := by rw [pk_sub (by omega), show f + n - f = n by omega]
  intro r
  induction r with
  | zero =>
    intro i t D w hi S hl
    have e : nI n ≤ nI i := nI_le (by omega) (by omega)
    refine ⟨D, w, ?_, by rw [plsT, List.append_nil]; exact S⟩
    simp (disch := first | assumption | decide) only [s80_98, s80_100, s80_102, s80_104, s80_105, s80_123, sb, if_pos e]
  | succ r ih =>
    intro i t D w hi S hl
    have e : ¬ nI n ≤ nI i := nI_ge (by omega) (by omega)
    have rc := sc_rc S
    have rB := sc_rB S Y
    rw [plsT, List.length_append] at hl
    obtain ⟨D2, w2, a2, S2⟩ := c_writePlace (X := X) Y S hf hn (by omega) hT hL Mk (i := i) (by omega)
    obtain ⟨D3, w3, a3, S3⟩ := ih (i + 1) _ D2 w2 (by omega) S2 (by rw [List.length_append]; omega)
    refine ⟨D3, w3, ?_, by rw [plsT]; rw [List.append_assoc] at S3; exact S3⟩
    rw [s80_98]
    simp (disch := first | assumption | decide) only [s80_100, s80_102, s80_104, s80_105, s80_108, s80_109, s80_110, s80_112, s80_114, s80_117, s80_120, sb, if_neg e, a2, List.getElem?_cons_zero, List.getElem?_cons_succ, Option.bind_some, Option.toList_some, Option.toList_none, List.cons_append, List.nil_append, nI_1, a3]
theorem cT_ok {p : Nat} : ∀ z, cT B p z = true → z < cN B p ∧ p + 3 + z ∈ cL B p := fun z h => ⟨(Tb_iff.mp h).1, (Tb_iff.mp h).2.1⟩
theorem sc_blk {b cc cp : Nat} (S : isSc w0 w t D pl ms) (K : isBlk w0 b q a cc cp us B) (Y : isBy w0 q a us B) (hb : 21 < b) : isBlk w b q a cc cp us B := ⟨(S.2.1 b (Or.inr hb)).trans K.1, sc_by S Y, K.2.2⟩
theorem tx18 : (txN 18).length = 4 := by decide +kernel
theorem tx19 : (txN 19).length = 1 := by decide +kernel
theorem tx20 : (txN 20).length = 3 := by decide +kernel
theorem tx21 : (txN 21).length = 1 := by decide +kernel
theorem c_writeCode {b cc cp p : Nat} (S : isSc w0 w t D pl ms) (K : isBlk w0 b q a cc cp us B) (Y : isBy w0 q a us B) (hb : 21 < b) (hp : p + 3 + cN B p ≤ B.length) (hB : B.length ≤ 120) (hl : t.length + (codT0 B p).length + 1 ≤ 808) : ∃ (D2 : List Nat) (pl2 : Nat) (ms2 : List Int32) (w2 : ex_W), ex_call X 80 [.ref 15, .ref b, .int (nI p)] w = some (none, w2) ∧ isSc w0 w2 (t ++ codT0 B p ++ [32]) D2 pl2 ms2 := by
  unfold codT0 codH nB at hl ⊢
  simp only [List.length_append, List.length_singleton, tx18, tx19, tx21] at hl
  have hb0 := Y.2.2.1 p
  have hb1 := Y.2.2.1 (p + 1)
  have Ks := sc_blk S K Y hb
  have rc := sc_rc S
  have rB := sc_rB S Y
  have g0 : ex_gf w b 2 0 = some (.ref q) := ex_gf_i Ks.1
  have hb9 : b < 1000 := K.2.2.2.1
  obtain ⟨w1, a1, S1⟩ := c_word (X := X) (j := 18) (by decide) S (by rw [tx18]; omega)
  have a1 : ex_call X 71 [.ref 15, .ref 1019] w = some (none, w1) := a1
  have c1 := c_byte (X := X) (i := p) S1 Y (by omega)
  have rc1 := sc_rc S1
  have rB1 := sc_rB S1 Y
  obtain ⟨D2, w2, a2, S2⟩ := c_number (X := X) (sg := 0) (v := (nI (B.getD p 0)).toInt64) S1 (by decide) (by rw [if_pos rfl]; simp only [List.length_append, List.length_singleton, List.length_nil, tx18]; omega)
  have a2 : ex_call X 72 [.ref 15, .int 0, .long (nI (B.getD p 0)).toInt64] w1 = some (none, w2) := a2
  rw [if_pos rfl, List.append_nil] at S2
  have c2 := c_byte (X := X) (i := p + 1) S2 Y (by omega)
  have rc2 := sc_rc S2
  have rB2 := sc_rB S2 Y
  obtain ⟨D3, w3, a3, S3⟩ := c_number (X := X) (sg := 0) (v := (nI (B.getD (p + 1) 0)).toInt64) S2 (by decide) (by rw [if_pos rfl]; simp only [List.length_append, List.length_singleton, List.length_nil, tx18]; omega)
  have a3 : ex_call X 72 [.ref 15, .int 0, .long (nI (B.getD (p + 1) 0)).toInt64] w2 = some (none, w3) := a3
  rw [if_pos rfl, List.append_nil] at S3
  have rc3 := sc_rc S3
  obtain ⟨w4, a4, S4⟩ := c_word (X := X) (j := 19) (by decide) S3 (by simp only [List.length_append, List.length_singleton, tx18, tx19]; omega)
  have a4 : ex_call X 71 [.ref 15, .ref 1020] w3 = some (none, w4) := a4
  have rc4 := sc_rc S4
  obtain ⟨w5, a5, S5⟩ := c_endLine (X := X) S4 (by simp only [List.length_append, List.length_singleton, tx18, tx19]; omega)
  have Ks5 := sc_blk S5 K Y hb
  have rb5 : ex_rc w5 b 2 = true := ex_rc_o Ks5.1 K.2.2.2.1 (by decide)
  have rc5 := sc_rc S5
  have rB5 := sc_rB S5 Y
  have ie : ex_call X 29 [.ref b, .int 2, .int (nI p)] w5 = some (some (.int (nI (p + 3 + cN B p))), w5) := b_itemEnd (X := X) (part := 2) Ks5 (by omega) (by decide)
  have ic := b_isClear (X := X) (p := p) Ks5 (by omega)
  have sb : nI (p + 3 + cN B p) - nI (p + 3) = nI (cN B p) := by rw [pk_sub (by omega), show p + 3 + cN B p - (p + 3) = cN B p by omega]
  have hd : ex_call X 80 [.ref 15, .ref b, .int (nI p)] w = ex_go X 80 63 [(0, .ref 15), (1, .ref b), (2, .int (nI p)), (3, .ref q), (4, .int (nI (p + 3))), (5, .int (nI (p + 3 + cN B p)))] [.int (if clearN B p = true then 1 else 0)] w5 := by
    show ex_go X 80 0 [(0, .ref 15), (1, .ref b), (2, .int (nI p))] [] w = _
    have n3 : nI p + 3 = nI (p + 3) := nI_add p 3
    simp (disch := first | assumption | decide) only [s80_0, s80_1, s80_4, s80_5, s80_6, s80_8, s80_11, s80_12, s80_13, s80_14, s80_15, s80_18, s80_19, s80_22, s80_23, s80_24, s80_25, s80_26, s80_27, s80_28, s80_31, s80_32, s80_35, s80_36, s80_38, s80_41, s80_42, s80_45, s80_46, s80_47, s80_48, s80_50, s80_51, s80_52, s80_53, s80_56, s80_58, s80_59, s80_60, g0, List.getElem?_cons_zero, List.getElem?_cons_succ, Option.bind_some, Option.toList_some, Option.toList_none, List.cons_append, List.nil_append, a1, c1, a2, nI_1, c2, a3, a4, a5, n3, ie, ic]
  rw [hd]
  -- the lines
  have bd : ∃ (D2 : List Nat) (pl2 : Nat) (ms2 : List Int32) (w6 : ex_W), ex_go X 80 63 [(0, .ref 15), (1, .ref b), (2, .int (nI p)), (3, .ref q), (4, .int (nI (p + 3))), (5, .int (nI (p + 3 + cN B p)))] [.int (if clearN B p = true then 1 else 0)] w5 = ex_go X 80 148 [(0, .ref 15)] [] w6 ∧ isSc w0 w6 (t ++ codH B p ++ bodT B p) D2 pl2 ms2 := by
    have S5 : isSc w0 w5 (t ++ codH B p) D3 pl ms := by
      unfold codH nB
      simp only [List.append_assoc] at S5 ⊢
      exact S5
    have hln : (codH B p).length = 4 + 1 + (numN (nI (B.getD p 0)).toInt64).length + 1 + (numN (nI (B.getD (p + 1) 0)).toInt64).length + 1 + 1 + 1 := by
      unfold codH nB
      simp only [List.length_append, List.length_singleton, tx18, tx19]
    unfold bodT at hl ⊢
    by_cases c : clearN B p = true
    · rw [if_pos c] at hl
      rw [if_pos c, if_pos c]
      have n1 : ¬ (1 : Int32) = 0 := by decide
      have rM5 := sc_mr S5
      obtain ⟨ms6, w6, a6, S6, M6⟩ := c_starts (X := X) (f := p + 3) (n := cN B p) S5 Y (by omega) (by omega) c
      have rM6 := sc_mr S6
      have rB6 := sc_rB S6 Y
      obtain ⟨ms7, w7, a7, S7, M7⟩ := c_targets (X := X) (f := p + 3) (n := cN B p) Y (by omega) (by omega) S6 M6
      have rM7 := sc_mr S7
      obtain ⟨ms8, w8, a8, S8, M8⟩ := c_numberT (X := X) (f := p + 3) (T := cT B p) (L := cL B p) (by omega) (fun j hj => (cT_ok j hj).2) S7 (mkS_lnS M7)
      obtain ⟨D9, w9, a9, S9⟩ := c_placesLoop (X := X) (f := p + 3) (T := cT B p) (L := cL B p) Y (by omega) (by omega) cT_ok (okL_st c) M8 (cN B p) 0 _ _ w8 (by omega) S8 (by rw [List.length_append, hln]; omega)
      have a9 : ex_go X 80 98 [(0, .ref 15), (3, .ref q), (4, .int (nI (p + 3))), (5, .int (nI (p + 3 + cN B p))), (6, .int 0)] [] w8 = _ := a9
      refine ⟨D9, _, ms8, w9, ?_, S9⟩
      simp (disch := first | assumption | decide) only [s80_63, s80_66, s80_67, s80_70, s80_71, s80_73, s80_75, s80_78, s80_79, s80_82, s80_83, s80_85, s80_88, s80_89, s80_92, s80_95, s80_96, if_neg n1, sc_gM S5, List.getElem?_cons_zero, List.getElem?_cons_succ, Option.bind_some, Option.toList_some, Option.toList_none, List.cons_append, List.nil_append, a6, sc_gM S6, a7, sc_gM S7, a8, a9]
    · rw [if_neg c] at hl
      rw [if_neg c, if_neg c]
      simp only [List.length_append, List.length_singleton, tx20] at hl
      obtain ⟨w6, a6, S6⟩ := c_word (X := X) (j := 20) (by decide) S5 (by rw [List.length_append, hln, tx20]; omega)
      have a6 : ex_call X 71 [.ref 15, .ref 1021] w5 = some (none, w6) := a6
      have rc6 := sc_rc S6
      have rB6 := sc_rB S6 Y
      obtain ⟨w7, a7, S7⟩ := c_bare (X := X) (f := p + 3) (n := cN B p) S6 Y (by omega) (by omega) (by simp only [List.length_append, List.length_singleton, tx20, hln]; omega)
      have rc7 := sc_rc S7
      obtain ⟨w8, a8, S8⟩ := c_endLine (X := X) S7 (by simp only [List.length_append, List.length_singleton, tx20, hln]; omega)
      refine ⟨D3, pl, ms, w8, ?_, by simp only [List.append_assoc] at S8 ⊢; exact S8⟩
      simp (disch := first | assumption | decide) only [s80_63, s80_126, s80_127, s80_129, s80_132, s80_133, s80_134, s80_136, s80_138, s80_140, s80_141, s80_144, s80_145, if_true, a6, List.getElem?_cons_zero, List.getElem?_cons_succ, Option.bind_some, Option.toList_some, Option.toList_none, List.cons_append, List.nil_append, sb, a7, a8]
  obtain ⟨D6, pl6, ms6, w6, a6, S6⟩ := bd
  have rc6 := sc_rc S6
  obtain ⟨w7, a7, S7⟩ := c_word (X := X) (j := 21) (by decide) S6 (by
    unfold codH nB
    simp only [List.length_append, List.length_singleton, tx18, tx19, tx21]
    omega)
  have a7 : ex_call X 71 [.ref 15, .ref 1022] w6 = some (none, w7) := a7
  refine ⟨D6, pl6, ms6, w7, ?_, ?_⟩
  · rw [a6]
    simp (disch := first | assumption | decide) only [s80_148, s80_149, s80_151, s80_154, a7, List.getElem?_cons_zero, List.getElem?_cons_succ, Option.bind_some, Option.toList_some, Option.toList_none, List.cons_append, List.nil_append]
  · unfold codH nB at S7
    simp only [List.append_assoc] at S7 ⊢
    exact S7
end CODE
