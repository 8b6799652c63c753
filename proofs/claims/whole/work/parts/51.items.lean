/-! the items' texts -/
def entT (B : List Nat) (p : Nat) : List Nat := if B.getD p 0 = 1 then txN 12 ++ [32] ++ numN (wdN B (p + 1) 4) else if B.getD p 0 = 2 then txN 13 ++ [32] ++ nameT B (p + 2) (B.getD (p + 1) 0) else if B.getD p 0 = 3 then txN 14 ++ [32] ++ nB (B.getD (p + 1) 0) ++ [32] ++ nB (B.getD (p + 2) 0) else txN 15 ++ [32] ++ numN (wdN B (p + 1) 8)
def fldT (B : List Nat) (p : Nat) : List Nat := txN 16 ++ [32] ++ nB (B.getD p 0) ++ [32] ++ nB (B.getD (p + 1) 0)
def attT (B : List Nat) (p : Nat) : List Nat := txN 17 ++ [32] ++ nB (B.getD p 0) ++ [32] ++ bytesT B (p + 2) (B.getD (p + 1) 0)
noncomputable def itT (B : List Nat) (part p : Nat) : List Nat := if part = 0 then entT B p else if part = 1 then fldT B p else if part = 2 then codT0 B p else attT B p
theorem numN_le (x : Int64) : (numN x).length ≤ 20 := by
  have := decN_len x.toInt.natAbs
  unfold numN
  split <;> simp only [List.length_append, List.length_cons, List.length_nil] <;> omega
theorem nB_le : ∀ b, b < 256 → 1 ≤ (nB b).length ∧ (nB b).length ≤ 3 := by decide +kernel
theorem tx_lens : (txN 12).length = 3 ∧ (txN 13).length = 4 ∧ (txN 14).length = 4 ∧ (txN 15).length = 4 ∧ (txN 16).length = 5 ∧ (txN 17).length = 6 := by decide +kernel
section ITEMS
variable {X : Option (List Int32)} {w0 w : ex_W} {t D : List Nat} {pl : Nat} {ms : List Int32} {q a : Nat} {us : List Int32} {B : List Nat} {p : Nat}
theorem c_num0 {x : Int64} (S : isSc w0 w t D pl ms) (hl : t.length + (numN x).length + 1 ≤ 808) : ∃ D2 w2, ex_call X 72 [.ref 15, .int 0, .long x] w = some (none, w2) ∧ isSc w0 w2 (t ++ numN x ++ [32]) D2 pl ms := by
  obtain ⟨D2, w2, a2, S2⟩ := c_number (X := X) (sg := 0) (v := x) S (by decide) (by rw [if_pos rfl]; simp only [List.length_nil]; omega)
  rw [if_pos rfl, List.append_nil] at S2
  exact ⟨D2, w2, a2, S2⟩
theorem c_writeEntry (S : isSc w0 w t D pl ms) (Y : isBy w0 q a us B) (hp : p < 2 ^ 10) (hl : t.length + 7 * (eEnd B p - p) ≤ 808) : ∃ D2 w2, ex_call X 74 [.ref 15, .ref q, .int (nI p)] w = some (none, w2) ∧ isSc w0 w2 (t ++ entT B p ++ [32]) D2 pl ms := by
  obtain ⟨k1, k2, k3, k4, k5, k6⟩ := tx_lens
  have hb0 := Y.2.2.1 p
  have hb1 := Y.2.2.1 (p + 1)
  have hb2 := Y.2.2.1 (p + 2)
  have rc := sc_rc S
  have rB := sc_rB S Y
  have cb := c_byte (X := X) (i := p) S Y (by omega)
  have n2 : nI p + 2 = nI (p + 2) := nI_add p 2
  show ∃ D2 w2, ex_go X 74 0 [(0, .ref 15), (1, .ref q), (2, .int (nI p))] [] w = _ ∧ _
  unfold entT
  unfold eEnd at hl
  by_cases c1 : B.getD p 0 = 1
  · rw [if_pos c1] at hl ⊢
    rw [c1] at cb
    have nl := numN_le (wdN B (p + 1) 4)
    obtain ⟨w1, a1, S1⟩ := c_word (X := X) (j := 12) (by decide) S (by omega)
    have a1 : ex_call X 71 [.ref 15, .ref 1013] w = some (none, w1) := a1
    have rc1 := sc_rc S1
    have rB1 := sc_rB S1 Y
    have sg : ex_call X 20 [.ref q, .int (nI (p + 1)), .int 4] w1 = some (some (.long (wdN B (p + 1) 4)), w1) := c_signed (X := X) (n := 4) (sc_by S1 Y) Y.2.1 Y.2.2.1 (by omega) (by omega) (by omega)
    obtain ⟨D2, w2, a2, S2⟩ := c_num0 (X := X) (x := wdN B (p + 1) 4) S1 (by simp only [List.length_append, List.length_singleton]; omega)
    refine ⟨D2, w2, ?_, by simp only [List.append_assoc] at S2 ⊢; exact S2⟩
    simp (disch := first | assumption | decide) only [s74_0, s74_1, s74_2, s74_5, s74_32, s74_33, s74_35, s74_38, s74_39, s74_40, s74_41, s74_42, s74_43, s74_44, s74_45, s74_48, s74_51, s74_54, s74_55, s74_57, s74_60, s74_61, s74_62, s74_63, s74_64, s74_65, s74_66, s74_67, s74_68, s74_69, s74_72, s74_75, s74_78, s74_79, s74_81, s74_84, s74_85, s74_86, s74_87, s74_88, s74_89, s74_90, s74_93, s74_94, s74_97, s74_98, s74_99, s74_100, s74_101, s74_102, s74_103, s74_106, s74_107, s74_110, s74_113, s74_114, s74_116, s74_119, s74_120, s74_121, s74_122, s74_123, s74_124, s74_125, s74_127, s74_130, s74_133, cb, List.getElem?_cons_zero, List.getElem?_cons_succ, Option.bind_some, Option.toList_some, Option.toList_none, List.cons_append, List.nil_append, if_pos, if_neg, a1, nI_1, sg, a2]
  · rw [if_neg c1] at hl ⊢
    by_cases c2 : B.getD p 0 = 2
    · rw [if_pos c2] at hl ⊢
      rw [c2] at cb
      obtain ⟨w1, a1, S1⟩ := c_word (X := X) (j := 13) (by decide) S (by omega)
      have a1 : ex_call X 71 [.ref 15, .ref 1014] w = some (none, w1) := a1
      have rc1 := sc_rc S1
      have rB1 := sc_rB S1 Y
      have cb1 := c_byte (X := X) (i := p + 1) S1 Y (by omega)
      obtain ⟨w2, a2, S2⟩ := c_name (X := X) (f := p + 2) (n := B.getD (p + 1) 0) S1 Y (by omega) (by omega) (by simp only [List.length_append, List.length_singleton]; omega)
      refine ⟨D, w2, ?_, by simp only [List.append_assoc] at S2 ⊢; exact S2⟩
      simp (disch := first | assumption | decide) only [s74_0, s74_1, s74_2, s74_5, s74_32, s74_33, s74_35, s74_38, s74_39, s74_40, s74_41, s74_42, s74_43, s74_44, s74_45, s74_48, s74_51, s74_54, s74_55, s74_57, s74_60, s74_61, s74_62, s74_63, s74_64, s74_65, s74_66, s74_67, s74_68, s74_69, s74_72, s74_75, s74_78, s74_79, s74_81, s74_84, s74_85, s74_86, s74_87, s74_88, s74_89, s74_90, s74_93, s74_94, s74_97, s74_98, s74_99, s74_100, s74_101, s74_102, s74_103, s74_106, s74_107, s74_110, s74_113, s74_114, s74_116, s74_119, s74_120, s74_121, s74_122, s74_123, s74_124, s74_125, s74_127, s74_130, s74_133, cb, List.getElem?_cons_zero, List.getElem?_cons_succ, Option.bind_some, Option.toList_some, Option.toList_none, List.cons_append, List.nil_append, if_pos, if_neg, a1, nI_1, n2, cb1, a2]
    · rw [if_neg c2] at hl ⊢
      by_cases c3 : B.getD p 0 = 3
      · rw [if_pos c3] at hl ⊢
        rw [c3] at cb
        have nl1 := nB_le _ hb1
        have nl2 := nB_le _ hb2
        unfold nB at nl1 nl2 ⊢
        obtain ⟨w1, a1, S1⟩ := c_word (X := X) (j := 14) (by decide) S (by omega)
        have a1 : ex_call X 71 [.ref 15, .ref 1015] w = some (none, w1) := a1
        have rc1 := sc_rc S1
        have rB1 := sc_rB S1 Y
        have cb1 := c_byte (X := X) (i := p + 1) S1 Y (by omega)
        obtain ⟨D2, w2, a2, S2⟩ := c_num0 (X := X) (x := (nI (B.getD (p + 1) 0)).toInt64) S1 (by simp only [List.length_append, List.length_singleton]; omega)
        have rc2 := sc_rc S2
        have rB2 := sc_rB S2 Y
        have cb2 := c_byte (X := X) (i := p + 2) S2 Y (by omega)
        obtain ⟨D3, w3, a3, S3⟩ := c_num0 (X := X) (x := (nI (B.getD (p + 2) 0)).toInt64) S2 (by simp only [List.length_append, List.length_singleton]; omega)
        refine ⟨D3, w3, ?_, by simp only [List.append_assoc] at S3 ⊢; exact S3⟩
        simp (disch := first | assumption | decide) only [s74_0, s74_1, s74_2, s74_5, s74_32, s74_33, s74_35, s74_38, s74_39, s74_40, s74_41, s74_42, s74_43, s74_44, s74_45, s74_48, s74_51, s74_54, s74_55, s74_57, s74_60, s74_61, s74_62, s74_63, s74_64, s74_65, s74_66, s74_67, s74_68, s74_69, s74_72, s74_75, s74_78, s74_79, s74_81, s74_84, s74_85, s74_86, s74_87, s74_88, s74_89, s74_90, s74_93, s74_94, s74_97, s74_98, s74_99, s74_100, s74_101, s74_102, s74_103, s74_106, s74_107, s74_110, s74_113, s74_114, s74_116, s74_119, s74_120, s74_121, s74_122, s74_123, s74_124, s74_125, s74_127, s74_130, s74_133, cb, List.getElem?_cons_zero, List.getElem?_cons_succ, Option.bind_some, Option.toList_some, Option.toList_none, List.cons_append, List.nil_append, if_pos, if_neg, a1, nI_1, n2, cb1, cb2, a2, a3]
      · rw [if_neg c3] at hl ⊢
        have e1 : ¬ nI (B.getD p 0) = 1 := fun z => c1 ((nI_eq (b := 1) (by omega) (by decide)).mp z)
        have e2 : ¬ nI (B.getD p 0) = 2 := fun z => c2 ((nI_eq (b := 2) (by omega) (by decide)).mp z)
        have e3 : ¬ nI (B.getD p 0) = 3 := fun z => c3 ((nI_eq (b := 3) (by omega) (by decide)).mp z)
        have nl := numN_le (wdN B (p + 1) 8)
        obtain ⟨w1, a1, S1⟩ := c_word (X := X) (j := 15) (by decide) S (by omega)
        have a1 : ex_call X 71 [.ref 15, .ref 1016] w = some (none, w1) := a1
        have rc1 := sc_rc S1
        have rB1 := sc_rB S1 Y
        have sg : ex_call X 20 [.ref q, .int (nI (p + 1)), .int 8] w1 = some (some (.long (wdN B (p + 1) 8)), w1) := c_signed (X := X) (n := 8) (sc_by S1 Y) Y.2.1 Y.2.2.1 (by omega) (by omega) (by omega)
        obtain ⟨D2, w2, a2, S2⟩ := c_num0 (X := X) (x := wdN B (p + 1) 8) S1 (by simp only [List.length_append, List.length_singleton]; omega)
        refine ⟨D2, w2, ?_, by simp only [List.append_assoc] at S2 ⊢; exact S2⟩
        simp (disch := first | assumption | decide) only [s74_0, s74_1, s74_2, s74_5, s74_32, s74_33, s74_35, s74_38, s74_39, s74_40, s74_41, s74_42, s74_43, s74_44, s74_45, s74_48, s74_51, s74_54, s74_55, s74_57, s74_60, s74_61, s74_62, s74_63, s74_64, s74_65, s74_66, s74_67, s74_68, s74_69, s74_72, s74_75, s74_78, s74_79, s74_81, s74_84, s74_85, s74_86, s74_87, s74_88, s74_89, s74_90, s74_93, s74_94, s74_97, s74_98, s74_99, s74_100, s74_101, s74_102, s74_103, s74_106, s74_107, s74_110, s74_113, s74_114, s74_116, s74_119, s74_120, s74_121, s74_122, s74_123, s74_124, s74_125, s74_127, s74_130, s74_133, cb, List.getElem?_cons_zero, List.getElem?_cons_succ, Option.bind_some, Option.toList_some, Option.toList_none, List.cons_append, List.nil_append, if_neg e1, if_neg e2, if_neg e3, a1, nI_1, sg, a2]
theorem c_writeField (S : isSc w0 w t D pl ms) (Y : isBy w0 q a us B) (hp : p < 2 ^ 10) (hl : t.length + 14 ≤ 808) : ∃ D2 w2, ex_call X 79 [.ref 15, .ref q, .int (nI p)] w = some (none, w2) ∧ isSc w0 w2 (t ++ fldT B p ++ [32]) D2 pl ms := by
  obtain ⟨k1, k2, k3, k4, k5, k6⟩ := tx_lens
  have rc := sc_rc S
  unfold fldT
  have nl1 := nB_le _ (Y.2.2.1 p)
  have nl2 := nB_le _ (Y.2.2.1 (p + 1))
  unfold nB at nl1 nl2 ⊢
  obtain ⟨w1, a1, S1⟩ := c_word (X := X) (j := 16) (by decide) S (by omega)
  have a1 : ex_call X 71 [.ref 15, .ref 1017] w = some (none, w1) := a1
  have rc1 := sc_rc S1
  have rB1 := sc_rB S1 Y
  have cb1 := c_byte (X := X) (i := p) S1 Y (by omega)
  obtain ⟨D2, w2, a2, S2⟩ := c_num0 (X := X) (x := (nI (B.getD p 0)).toInt64) S1 (by simp only [List.length_append, List.length_singleton]; omega)
  have rc2 := sc_rc S2
  have rB2 := sc_rB S2 Y
  have cb2 := c_byte (X := X) (i := p + 1) S2 Y (by omega)
  obtain ⟨D3, w3, a3, S3⟩ := c_num0 (X := X) (x := (nI (B.getD (p + 1) 0)).toInt64) S2 (by simp only [List.length_append, List.length_singleton]; omega)
  refine ⟨D3, w3, ?_, by simp only [List.append_assoc] at S3 ⊢; exact S3⟩
  show ex_go X 79 0 [(0, .ref 15), (1, .ref q), (2, .int (nI p))] [] w = _
  simp (disch := first | assumption | decide) only [s79_0, s79_1, s79_3, s79_6, s79_7, s79_8, s79_9, s79_10, s79_13, s79_14, s79_17, s79_18, s79_19, s79_20, s79_21, s79_22, s79_23, s79_26, s79_27, s79_30, List.getElem?_cons_zero, List.getElem?_cons_succ, Option.bind_some, Option.toList_some, Option.toList_none, List.cons_append, List.nil_append, a1, nI_1, cb1, cb2, a2, a3]
theorem c_writeAtt (S : isSc w0 w t D pl ms) (Y : isBy w0 q a us B) (hp : p < 2 ^ 10) (hl : t.length + 14 + 7 * B.getD (p + 1) 0 ≤ 808) : ∃ D2 w2, ex_call X 83 [.ref 15, .ref q, .int (nI p)] w = some (none, w2) ∧ isSc w0 w2 (t ++ attT B p ++ [32]) D2 pl ms := by
  obtain ⟨k1, k2, k3, k4, k5, k6⟩ := tx_lens
  have rc := sc_rc S
  unfold attT
  have nl1 := nB_le _ (Y.2.2.1 p)
  have hb1 := Y.2.2.1 (p + 1)
  have n2 : nI p + 2 = nI (p + 2) := nI_add p 2
  unfold nB at nl1 ⊢
  obtain ⟨w1, a1, S1⟩ := c_word (X := X) (j := 17) (by decide) S (by omega)
  have a1 : ex_call X 71 [.ref 15, .ref 1018] w = some (none, w1) := a1
  have rc1 := sc_rc S1
  have rB1 := sc_rB S1 Y
  have cb1 := c_byte (X := X) (i := p) S1 Y (by omega)
  obtain ⟨D2, w2, a2, S2⟩ := c_num0 (X := X) (x := (nI (B.getD p 0)).toInt64) S1 (by simp only [List.length_append, List.length_singleton]; omega)
  have rc2 := sc_rc S2
  have rB2 := sc_rB S2 Y
  have cb2 := c_byte (X := X) (i := p + 1) S2 Y (by omega)
  have bl := bytesT_len (B := B) (p := p + 2) (n := B.getD (p + 1) 0)
  obtain ⟨w3, a3, S3⟩ := c_bare (X := X) (f := p + 2) (n := B.getD (p + 1) 0) S2 Y (by omega) (by omega) (by simp only [List.length_append, List.length_singleton]; omega)
  refine ⟨D2, w3, ?_, by simp only [List.append_assoc] at S3 ⊢; exact S3⟩
  show ex_go X 83 0 [(0, .ref 15), (1, .ref q), (2, .int (nI p))] [] w = _
  simp (disch := first | assumption | decide) only [s83_0, s83_1, s83_3, s83_6, s83_7, s83_8, s83_9, s83_10, s83_13, s83_14, s83_17, s83_18, s83_19, s83_20, s83_21, s83_22, s83_23, s83_24, s83_25, s83_26, s83_29, s83_32, List.getElem?_cons_zero, List.getElem?_cons_succ, Option.bind_some, Option.toList_some, Option.toList_none, List.cons_append, List.nil_append, a1, nI_1, n2, cb1, cb2, a2, a3]
end ITEMS
/-! the other object's items -/
section ITEMS2
variable {X : Option (List Int32)} {w0 w : ex_W} {m : Nat → Int32} {v : Int64} {t : List Nat} {ds bg ln bs : List Int32} {B : List Nat} {p : Nat}
theorem y_fiveL {a b c d e : Nat} {xs : List Nat} (S : isTx w0 w m v t ds bg ln) (h : t.length + 5 ≤ 1000) (ha : a < 128 ∧ b < 128 ∧ c < 128 ∧ d < 128 ∧ e < 128) (hx : opt a ++ opt b ++ opt c ++ opt d ++ opt e = xs) : ∃ w2, ex_call X 108 [.ref 32, .int (nI a), .int (nI b), .int (nI c), .int (nI d), .int (nI e)] w = some (none, w2) ∧ isTx w0 w2 m v (t ++ xs) ds bg ln := by
  obtain ⟨w2, a1, S1⟩ := y_five (X := X) (a := a) (b := b) (c := c) (d := d) (e := e) S h (by omega) (by omega) (by omega) (by omega) (by omega)
  refine ⟨w2, a1, ?_⟩
  rw [← hx]
  simp only [List.append_assoc] at S1 ⊢
  exact S1
theorem tx_beg {zs : List Int32} (S : isTx w0 w m v t ds bg ln) (h : zs.length = 121) : isTx w0 (w.set 39 (.inr (1, zs))) m v t ds zs ln := by
  obtain ⟨s1, s2, s3, ⟨xs, x1, x2, x3⟩, d1, d2, s6, s7, s8, s9⟩ := S
  exact ⟨by rw [List.length_set]; exact s1, fun j a b => by rw [List.getElem?_set_ne (by omega)]; exact s2 j a b, ex_set_o (by decide) s3, ⟨xs, ex_set_o (by decide) x1, x2, x3⟩, ex_set_o (by decide) d1, d2, ex_set_s s6, h, ex_set_o (by decide) s8, s9⟩
theorem y_placesLoop (Y : isBm w0 bs B) {n : Nat} {L : List Nat} (hL : okL B (p + 3) n L) (hn : n ≤ 120) (hf : p + 3 + n ≤ B.length) (hb : bgS (p + 3) n L bg) (hln : lnF n (Tb B (p + 3) n L) n ln) : ∀ (r i : Nat) (t : List Nat) (ds : List Int32) (w : ex_W), i + r = n → isTx w0 w m v t ds bg ln → t.length + (plsT B (p + 3) (Tb B (p + 3) n L) L r i).length ≤ 808 → ∃ ds2 w2, ex_go X 117 73 [(0, .ref 32), (1, .int (nI p)), (2, .int (nI n)), (3, .int (nI i))] [] w = ex_go X 117 136 [(0, .ref 32), (1, .int (nI p)), (2, .int (nI n))] [] w2 ∧ isTx w0 w2 m v (t ++ plsT B (p + 3) (Tb B (p + 3) n L) L r i) ds2 bg ln := by
  intro r
  induction r with
  | zero =>
    intro i t ds w hi S hl
    have e : nI n ≤ nI i := nI_le (by omega) (by omega)
    refine ⟨ds, w, ?_, by rw [plsT, List.append_nil]; exact S⟩
    simp (disch := first | assumption | decide) only [s117_73, s117_74, s117_75, s117_106, if_pos e]
  | succ r ih =>
    intro i t ds w hi S hl
    have e : ¬ nI n ≤ nI i := nI_ge (by omega) (by omega)
    have rc := tx_rc S
    have n3 : nI p + 3 = nI (p + 3) := nI_add p 3
    have bl := tx_bl (i := i) S (by omega)
    rw [hb i (by omega)] at bl
    rw [plsT] at hl ⊢
    rw [List.length_append] at hl
    by_cases hp : p + 3 + i ∈ L
    · rw [if_pos hp] at bl
      have n1 : ¬ (1 : Int32) = 0 := by decide
      have ep : plT B (p + 3) (Tb B (p + 3) n L) L i = lbl (Tb B (p + 3) n L) i ++ insT B (p + 3) (Tb B (p + 3) n L) (p + 3 + i) ++ [10] := by rw [plT, if_pos hp]
      rw [ep] at hl ⊢
      simp only [List.length_append, List.length_singleton] at hl
      obtain ⟨ds2, w2, a2, S2⟩ := y_tellInstruction (X := X) (i := i) S Y hL hn hf hb hp hln (by omega)
      obtain ⟨ds3, w3, a3, S3⟩ := ih (i + 1) _ ds2 w2 (by omega) S2 (by simp only [List.length_append, List.length_singleton]; omega)
      refine ⟨ds3, w3, ?_, by simp only [List.append_assoc] at S3 ⊢; exact S3⟩
      rw [s117_73]
      simp (disch := first | assumption | decide) only [s117_74, s117_75, s117_78, s117_79, s117_82, s117_83, s117_84, s117_87, s117_88, s117_89, s117_90, s117_91, s117_92, s117_93, s117_94, s117_95, s117_96, s117_97, s117_100, s117_103, if_neg e, tx_g11 S, List.getElem?_cons_zero, List.getElem?_cons_succ, Option.bind_some, Option.toList_some, Option.toList_none, List.cons_append, List.nil_append, bl, if_neg n1, n3, nI_add, a2, nI_1, a3]
    · rw [if_neg hp] at bl
      have ep : plT B (p + 3) (Tb B (p + 3) n L) L i = [] := by rw [plT, if_neg hp]
      rw [ep, List.nil_append]
      rw [ep, List.length_nil] at hl
      obtain ⟨ds3, w3, a3, S3⟩ := ih (i + 1) t ds w (by omega) S (by omega)
      refine ⟨ds3, w3, ?_, S3⟩
      rw [s117_73]
      simp (disch := first | assumption | decide) only [s117_74, s117_75, s117_78, s117_79, s117_82, s117_83, s117_84, s117_87, s117_88, s117_89, s117_90, s117_91, s117_92, s117_93, s117_94, s117_95, s117_96, s117_97, s117_100, s117_103, if_neg e, tx_g11 S, List.getElem?_cons_zero, List.getElem?_cons_succ, Option.bind_some, Option.toList_some, Option.toList_none, List.cons_append, List.nil_append, bl, if_true, nI_1, a3]
theorem y_tellCode (S : isTx w0 w m v t ds bg ln) (Y : isBm w0 bs B) (hp : p + 3 + cN B p ≤ B.length) (hB : B.length ≤ 120) (hl : t.length + (codT0 B p).length + 1 ≤ 808) : ∃ ds2 bg2 ln2 w2, ex_call X 117 [.ref 32, .int (nI p)] w = some (some (.int (nI (p + 3 + cN B p))), w2) ∧ isTx w0 w2 m v (t ++ codT0 B p ++ [10]) ds2 bg2 ln2 := by
  unfold codT0 codH at hl ⊢
  simp only [List.length_append, List.length_singleton, tx18, tx19, tx21] at hl
  have hb0 := Y.2.2.2 p
  have hb1 := Y.2.2.2 (p + 1)
  have rc := tx_rc S
  have h2 := y_blk (tx_B S Y) (p := p + 2) (by omega)
  have n2 : nI p + 2 = nI (p + 2) := nI_add p 2
  have n3 : nI p + 3 = nI (p + 3) := nI_add p 3
  obtain ⟨w1, a1, S1⟩ := y_fiveL (X := X) (a := 99) (b := 111) (c := 100) (d := 101) (e := 0) (xs := txN 18) S (by omega) (by decide) (by decide +kernel)
  have a1 : ex_call X 108 [.ref 32, .int 99, .int 111, .int 100, .int 101, .int 0] w = some (none, w1) := a1
  have rc1 := tx_rc S1
  have h01 := y_blk (tx_B S1 Y) (p := p) (by omega)
  have h11 := y_blk (tx_B S1 Y) (p := p + 1) (by omega)
  unfold nB at hl ⊢
  obtain ⟨ds2, w2, a2, S2⟩ := y_pair (X := X) (a := B.getD p 0) (b := B.getD (p + 1) 0) S1 hb0 hb1 (by simp only [List.length_append, tx18]; omega)
  have rc2 := tx_rc S2
  obtain ⟨w3, a3, S3⟩ := y_fiveL (X := X) (a := 32) (b := 123) (c := 10) (d := 0) (e := 0) (xs := [32] ++ txN 19 ++ [10]) S2 (by simp only [List.length_append, List.length_singleton, tx18]; omega) (by decide) (by decide +kernel)
  have a3 : ex_call X 108 [.ref 32, .int 32, .int 123, .int 10, .int 0, .int 0] w2 = some (none, w3) := a3
  have rc3 := tx_rc S3
  obtain ⟨zs, z1, z2, ic⟩ := y_isClear (X := X) (n := cN B p) (a := p + 3) (tx_B S3 Y) S3.2.2.2.2.2.2.1 S3.2.2.2.2.2.2.2.1 (by omega) hp
  have S4 := tx_beg S3 z1
  have rc4 := tx_rc S4
  have hd : ex_call X 117 [.ref 32, .int (nI p)] w = ex_go X 117 60 [(0, .ref 32), (1, .int (nI p)), (2, .int (nI (cN B p)))] [.int (if clearN B p = true then 1 else 0)] (w3.set 39 (.inr (1, zs))) := by
    have h2 : ex_al w 33 0 (nI (p + 2)) = some (nI (cN B p)) := h2
    have ic : ex_call X 118 [.ref 32, .int (nI (p + 3)), .int (nI (cN B p))] w3 = some (some (.int (if clearN B p = true then 1 else 0)), w3.set 39 (.inr (1, zs))) := ic
    show ex_go X 117 0 [(0, .ref 32), (1, .int (nI p))] [] w = _
    simp (disch := first | assumption | decide) only [s117_0, s117_1, s117_4, s117_5, s117_6, s117_7, s117_8, s117_9, s117_10, s117_12, s117_14, s117_16, s117_18, s117_19, s117_22, s117_23, s117_24, s117_27, s117_28, s117_29, s117_30, s117_33, s117_34, s117_35, s117_36, s117_37, s117_40, s117_41, s117_43, s117_45, s117_47, s117_48, s117_49, s117_52, s117_53, s117_54, s117_55, s117_56, s117_57, tx_g0 S, tx_g0 S1, List.getElem?_cons_zero, List.getElem?_cons_succ, Option.bind_some, Option.toList_some, Option.toList_none, List.cons_append, List.nil_append, n2, h2, a1, h01, nI_1, h11, a2, a3, n3, ic]
  rw [hd]
  have bd : ∃ ds2 ln2 w6, ex_go X 117 60 [(0, .ref 32), (1, .int (nI p)), (2, .int (nI (cN B p)))] [.int (if clearN B p = true then 1 else 0)] (w3.set 39 (.inr (1, zs))) = ex_go X 117 136 [(0, .ref 32), (1, .int (nI p)), (2, .int (nI (cN B p)))] [] w6 ∧ isTx w0 w6 m v (t ++ codH B p ++ bodT B p) ds2 zs ln2 := by
    have S4 : isTx w0 (w3.set 39 (.inr (1, zs))) m v (t ++ codH B p) ds2 zs ln := by
      unfold codH nB
      simp only [List.append_assoc] at S4 ⊢
      exact S4
    have hln : (codH B p).length = 4 + 1 + (numN (nI (B.getD p 0)).toInt64).length + 1 + (numN (nI (B.getD (p + 1) 0)).toInt64).length + 1 + 1 + 1 := by
      unfold codH nB
      simp only [List.length_append, List.length_singleton, tx18, tx19]
    unfold bodT at hl ⊢
    by_cases c : clearN B p = true
    · rw [if_pos c] at hl
      rw [if_pos c, if_pos c]
      have n1 : ¬ (1 : Int32) = 0 := by decide
      have hL : okL B (p + 3) (cN B p) (cL B p) := okL_st c
      obtain ⟨ln5, w5, a5, S5, f5⟩ := y_findLines (X := X) S4 Y hL (by omega) hp z2
      obtain ⟨ds6, w6, a6, S6⟩ := y_placesLoop (X := X) Y hL (by omega) hp z2 f5 (cN B p) 0 _ ds2 w5 (by omega) S5 (by
        have e : (plsT B (p + 3) (Tb B (p + 3) (cN B p) (cL B p)) (cL B p) (cN B p) 0).length = (plsT B (p + 3) (cT B p) (cL B p) (cN B p) 0).length := rfl
        rw [List.length_append, hln]
        omega)
      have a6 : ex_go X 117 73 [(0, .ref 32), (1, .int (nI p)), (2, .int (nI (cN B p))), (3, .int 0)] [] w5 = _ := a6
      refine ⟨ds6, ln5, w6, ?_, S6⟩
      simp (disch := first | assumption | decide) only [s117_60, s117_63, s117_64, s117_65, s117_66, s117_67, s117_68, s117_71, s117_72, if_neg n1, n3, a5, List.getElem?_cons_zero, List.getElem?_cons_succ, Option.bind_some, Option.toList_some, Option.toList_none, List.cons_append, List.nil_append, a6]
    · rw [if_neg c] at hl
      rw [if_neg c, if_neg c]
      have bl := bytesT_len (B := B) (p := p + 3) (n := cN B p)
      simp only [List.length_append, List.length_singleton, tx20] at hl
      obtain ⟨w5, a5, S5⟩ := y_fiveL (X := X) (a := 114) (b := 97) (c := 119) (d := 32) (e := 0) (xs := txN 20 ++ [32]) S4 (by simp only [List.length_append, hln]; omega) (by decide) (by decide +kernel)
      have a5 : ex_call X 108 [.ref 32, .int 114, .int 97, .int 119, .int 32, .int 0] (w3.set 39 (.inr (1, zs))) = some (none, w5) := a5
      have rc5 := tx_rc S5
      obtain ⟨w6, a6, S6⟩ := y_sayBytes (X := X) (p := p + 3) (n := cN B p) S5 Y hp (by simp only [List.length_append, List.length_singleton, tx20, hln]; omega)
      have rc6 := tx_rc S6
      obtain ⟨w7, a7, S7⟩ := y_say (X := X) (c := 10) S6 (by simp only [List.length_append, List.length_singleton, tx20, hln]; omega)
      have a7 : ex_call X 109 [.ref 32, .int 10] w6 = some (none, w7) := a7
      refine ⟨ds2, ln, w7, ?_, by simp only [List.append_assoc] at S7 ⊢; exact S7⟩
      simp (disch := first | assumption | decide) only [s117_60, s117_109, s117_110, s117_112, s117_114, s117_116, s117_118, s117_119, s117_122, s117_123, s117_124, s117_125, s117_126, s117_127, s117_130, s117_131, s117_133, if_true, a5, List.getElem?_cons_zero, List.getElem?_cons_succ, Option.bind_some, Option.toList_some, Option.toList_none, List.cons_append, List.nil_append, n3, a6, a7]
  obtain ⟨ds6, ln6, w6, a6, S6⟩ := bd
  have rc6 := tx_rc S6
  obtain ⟨w7, a7, S7⟩ := y_fiveL (X := X) (a := 125) (b := 10) (c := 0) (d := 0) (e := 0) (xs := txN 21 ++ [10]) S6 (by
    unfold codH nB
    simp only [List.length_append, List.length_singleton, tx18, tx19]
    omega) (by decide) (by decide +kernel)
  have a7 : ex_call X 108 [.ref 32, .int 125, .int 10, .int 0, .int 0, .int 0] w6 = some (none, w7) := a7
  refine ⟨ds6, zs, ln6, w7, ?_, ?_⟩
  · rw [a6]
    simp (disch := first | assumption | decide) only [s117_136, s117_137, s117_139, s117_141, s117_142, s117_143, s117_144, s117_147, s117_148, s117_149, s117_150, s117_151, s117_152, a7, List.getElem?_cons_zero, List.getElem?_cons_succ, Option.bind_some, Option.toList_some, Option.toList_none, List.cons_append, List.nil_append, n3, nI_add]
  · unfold codH nB at S7
    simp only [List.append_assoc] at S7 ⊢
    exact S7
end ITEMS2
