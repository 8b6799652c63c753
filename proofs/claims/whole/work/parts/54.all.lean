/-! both objects write the whole text -/
section WRITE
variable {X : Option (List Int32)} {w0 w : ex_W} {t D : List Nat} {pl : Nat} {ms : List Int32} {b q a cc cp : Nat} {us ys : List Int32} {B : List Nat}
theorem c_item {part p : Nat} {x3 x5 : Int32} (hk : part ≤ 3) (S : isSc w0 w t D pl ms) (K : isBlk w0 b q a cc cp us B) (Y : isBy w0 q a us B) (hb : 21 < b) (hE : iEnd B part p ≤ B.length) (h120 : B.length ≤ 120) (hl : t.length + 7 * (iEnd B part p - p) ≤ 808) : ∃ D2 pl2 ms2 w2, ex_go X 70 60 [(0, .ref 15), (1, .ref b), (2, .int (nI part)), (3, .int x3), (4, .int (nI p)), (5, .int x5)] [] w = ex_go X 70 134 [(0, .ref 15), (1, .ref b), (2, .int (nI part)), (3, .int x3), (4, .int (nI p)), (5, .int x5)] [] w2 ∧ isSc w0 w2 (t ++ itT B part p ++ [32]) D2 pl2 ms2 := by
  have rc := sc_rc S
  have rB := sc_rB S Y
  have Ks := sc_blk S K Y hb
  have hb9 : b < 1000 := K.2.2.2.1
  have g0 : ex_gf w b 2 0 = some (.ref q) := ex_gf_i Ks.1
  have il := it_len Y.2.2.1 hk hE h120
  have hpl : p + 2 ≤ iEnd B part p := iEnd_gt B part p
  have cs : part = 0 ∨ part = 1 ∨ part = 2 ∨ part = 3 := by omega
  rcases cs with c | c | c | c <;> subst c
  · obtain ⟨D2, w2, a2, S2⟩ := c_writeEntry (X := X) (p := p) S Y (by omega) hl
    exact ⟨D2, pl, ms, w2, by simp (disch := first | assumption | decide) only [s70_60, s70_61, s70_88, s70_89, s70_90, s70_93, s70_95, s70_98, if_pos, if_neg, g0, List.getElem?_cons_zero, List.getElem?_cons_succ, Option.bind_some, Option.toList_some, Option.toList_none, List.cons_append, List.nil_append, a2], S2⟩
  · obtain ⟨D2, w2, a2, S2⟩ := c_writeField (X := X) (p := p) S Y (by omega) (by omega)
    exact ⟨D2, pl, ms, w2, by simp (disch := first | assumption | decide) only [s70_60, s70_61, s70_88, s70_89, s70_90, s70_93, s70_95, s70_98, s70_101, s70_102, s70_103, s70_106, s70_108, s70_111, if_pos, if_neg, g0, List.getElem?_cons_zero, List.getElem?_cons_succ, Option.bind_some, Option.toList_some, Option.toList_none, List.cons_append, List.nil_append, a2], S2⟩
  · obtain ⟨D2, pl2, ms2, w2, a2, S2⟩ := c_writeCode (X := X) (p := p) S K Y hb hE h120 (by
      have e : itT B 2 p = codT0 B p := rfl
      rw [e] at il
      omega)
    exact ⟨D2, pl2, ms2, w2, by simp (disch := first | assumption | decide) only [s70_60, s70_61, s70_88, s70_89, s70_90, s70_93, s70_95, s70_98, s70_101, s70_102, s70_103, s70_106, s70_108, s70_111, s70_114, s70_115, s70_116, s70_118, s70_121, if_pos, if_neg, g0, List.getElem?_cons_zero, List.getElem?_cons_succ, Option.bind_some, Option.toList_some, Option.toList_none, List.cons_append, List.nil_append, a2], S2⟩
  · have hE : p + 2 + B.getD (p + 1) 0 ≤ B.length := hE
    have hl : t.length + 7 * (p + 2 + B.getD (p + 1) 0 - p) ≤ 808 := hl
    obtain ⟨D2, w2, a2, S2⟩ := c_writeAtt (X := X) (p := p) S Y (by omega) (by omega)
    exact ⟨D2, pl, ms, w2, by simp (disch := first | assumption | decide) only [s70_60, s70_61, s70_88, s70_89, s70_90, s70_93, s70_95, s70_98, s70_101, s70_102, s70_103, s70_106, s70_108, s70_111, s70_114, s70_115, s70_116, s70_118, s70_121, s70_124, s70_125, s70_126, s70_129, s70_131, if_pos, if_neg, g0, List.getElem?_cons_zero, List.getElem?_cons_succ, Option.bind_some, Option.toList_some, Option.toList_none, List.cons_append, List.nil_append, a2], S2⟩
theorem c_items {part : Nat} (hk : part ≤ 3) (K : isBlk w0 b q a cc cp us B) (Y : isBy w0 q a us B) (hb : 21 < b) (H : shape B) : ∀ (r i p : Nat) (t D : List Nat) (pl : Nat) (ms : List Int32) (w : ex_W), i + r = B.getD (cP B part) 0 → p = itN B part (cP B part + 1) i → isSc w0 w t D pl ms → t.length + 7 * cP B (part + 1) ≤ 808 + 7 * p → ∃ D2 pl2 ms2 w2, ex_go X 70 54 [(0, .ref 15), (1, .ref b), (2, .int (nI part)), (3, .int (nI (B.getD (cP B part) 0))), (4, .int (nI p)), (5, .int (nI i))] [] w = ex_go X 70 153 [(0, .ref 15), (1, .ref b), (2, .int (nI part))] [] w2 ∧ isSc w0 w2 (t ++ itsT B part r p) D2 pl2 ms2 ∧ (t ++ itsT B part r p).length ≤ 808 := by
  obtain ⟨h1, h2, h3, h4, h5⟩ := H
  have hc := Y.2.2.1 (cP B part)
  intro r
  induction r with
  | zero =>
    intro i p t D pl ms w hi hp S hl
    have e : nI (B.getD (cP B part) 0) ≤ nI i := nI_le (by omega) (by omega)
    have ep : p = cP B (part + 1) := by rw [hp, cP, show i = B.getD (cP B part) 0 by omega]
    refine ⟨D, pl, ms, w, ?_, by rw [itsT, List.append_nil]; exact S, by rw [itsT, List.append_nil]; omega⟩
    simp (disch := first | assumption | decide) only [s70_54, s70_56, s70_57, if_pos e]
  | succ r ih =>
    intro i p t D pl ms w hi hp S hl
    have e : ¬ nI (B.getD (cP B part) 0) ≤ nI i := nI_ge (by omega) (by omega)
    have ok := (h4 part (by omega)).2.2 i (by omega)
    rw [← hp] at ok
    have en : iEnd B part p ≤ cP B (part + 1) := by
      rw [hp, ← itN_succ, cP]
      exact itN_mono _ _ (by omega)
    have hpl : p + 2 ≤ iEnd B part p := iEnd_gt B part p
    have il := it_len Y.2.2.1 hk ok.1 h3
    obtain ⟨D2, pl2, ms2, w2, a2, S2⟩ := c_item (X := X) (x3 := nI (B.getD (cP B part) 0)) (x5 := nI i) hk S K Y hb ok.1 h3 (by omega)
    have rc2 := sc_rc S2
    obtain ⟨w3, a3, S3⟩ := c_endLine (X := X) S2 (by rw [List.length_append]; omega)
    have Ks3 := sc_blk S3 K Y hb
    have rb3 : ex_rc w3 b 2 = true := ex_rc_o Ks3.1 K.2.2.2.1 (by decide)
    have ie := b_itemEnd (X := X) (part := part) (p := p) Ks3 (by have := ok.1; omega) hk
    obtain ⟨D4, pl4, ms4, w4, a4, S4, l4⟩ := ih (i + 1) (iEnd B part p) _ D2 pl2 ms2 w3 (by omega) (by rw [itN_succ, ← hp]) S3 (by simp only [List.length_append, List.length_singleton]; omega)
    refine ⟨D4, pl4, ms4, w4, ?_, by rw [itsT]; simp only [List.append_assoc] at S4 ⊢; exact S4, by rw [itsT]; simp only [List.append_assoc] at l4 ⊢; exact l4⟩
    rw [s70_54]
    simp (disch := first | assumption | decide) only [s70_56, s70_57, if_neg e]
    rw [a2]
    simp (disch := first | assumption | decide) only [s70_134, s70_135, s70_138, s70_139, s70_140, s70_142, s70_145, s70_147, s70_150, a3, List.getElem?_cons_zero, List.getElem?_cons_succ, Option.bind_some, Option.toList_some, Option.toList_none, List.cons_append, List.nil_append, ie, nI_1]
    exact a4
theorem c_parts (K : isBlk w0 b q a cc cp us B) (Y : isBy w0 q a us B) (hb : 21 < b) (H : shape B) (hcc : w0[cc]? = some (.inr (0, ys))) (hyl : ys.length = 4) (hccb : 21 < cc ∧ cc < 1000) (hP : ∀ k, k < 4 → ys.getD k 0 = nI (cP B k)) : ∀ (r k : Nat) (t D : List Nat) (pl : Nat) (ms : List Int32) (w : ex_W), k + r = 4 → isSc w0 w t D pl ms → t.length + 7 * B.length + 7 * k ≤ 808 + 7 * cP B k + 28 → ∃ D2 pl2 ms2 w2, ex_go X 70 33 [(0, .ref 15), (1, .ref b), (2, .int (nI k))] [] w = some (none, w2) ∧ isSc w0 w2 (t ++ prtT B r k) D2 pl2 ms2 ∧ (t ++ prtT B r k).length ≤ 808 := by
  have H0 := H
  obtain ⟨h1, h2, h3, h4, h5⟩ := H
  intro r
  induction r with
  | zero =>
    intro k t D pl ms w hk S hl
    have e : (4 : Int32) ≤ nI k := nI_le (a := 4) (by omega) (by omega)
    have e4 : k = 4 := by omega
    subst e4
    refine ⟨D, pl, ms, w, ?_, by rw [prtT, List.append_nil]; exact S, by rw [prtT, List.append_nil]; omega⟩
    simp (disch := first | assumption | decide) only [s70_33, s70_34, s70_35, s70_159, if_pos e]
  | succ r ih =>
    intro k t D pl ms w hk S hl
    have e : ¬ (4 : Int32) ≤ nI k := nI_ge (b := 4) (by omega) (by decide)
    have s := h4 k (by omega)
    have Ks := sc_blk S K Y hb
    have rb : ex_rc w b 2 = true := ex_rc_o Ks.1 K.2.2.2.1 (by decide)
    have hm := b_howMany (X := X) (part := k) (c0 := cP B k) Ks ((S.2.1 cc (Or.inr hccb.1)).trans hcc) hyl hccb.2 (by omega) (hP k (by omega)) (by omega)
    have fi := b_firstItem (X := X) (part := k) (c0 := cP B k) Ks ((S.2.1 cc (Or.inr hccb.1)).trans hcc) hyl hccb.2 (by omega) (hP k (by omega))
    have cnx : cP B (k + 1) + 4 ≤ B.length + (k + 1) := by
      by_cases c : k = 3
      · subst c
        have : cP B (3 + 1) = B.length := h5
        omega
      · exact (h4 (k + 1) (by omega)).1
    have ge : cP B k + 1 ≤ cP B (k + 1) := by
      rw [cP]
      exact itN_ge _ _
    obtain ⟨D2, pl2, ms2, w2, a2, S2, l2⟩ := c_items (X := X) (part := k) (by omega) K Y hb H0 (B.getD (cP B k) 0) 0 (cP B k + 1) t D pl ms w (by omega) rfl S (by omega)
    have a2 : ex_go X 70 54 [(0, .ref 15), (1, .ref b), (2, .int (nI k)), (3, .int (nI (B.getD (cP B k) 0))), (4, .int (nI (cP B k + 1))), (5, .int 0)] [] w = _ := a2
    have iln : ∀ (n p : Nat), (∀ i, i < n → itemOK B k (itN B k p i)) → (itsT B k n p).length + 7 * p ≤ 7 * itN B k p n := by
      intro n
      induction n with
      | zero => intro p _; rw [itsT, itN]; exact Nat.le_of_eq (Nat.zero_add _)
      | succ n ihn =>
        intro p ho
        have o0 := ho 0 (by omega)
        rw [itN] at o0
        have l0 := it_len Y.2.2.1 (part := k) (p := p) (by omega) o0.1 h3
        have := ihn (iEnd B k p) (fun i hi => by
          have := ho (i + 1) (by omega)
          rw [itN] at this
          exact this)
        rw [itsT, itN]
        simp only [List.length_append, List.length_singleton]
        omega
    have l5 := iln (B.getD (cP B k) 0) (cP B k + 1) s.2.2
    have l5 : (itsT B k (B.getD (cP B k) 0) (cP B k + 1)).length + 7 * (cP B k + 1) ≤ 7 * cP B (k + 1) := l5
    obtain ⟨D3, pl3, ms3, w3, a3, S3, l3⟩ := ih (k + 1) _ D2 pl2 ms2 w2 (by omega) S2 (by rw [List.length_append]; omega)
    refine ⟨D3, pl3, ms3, w3, ?_, by rw [prtT]; rw [List.append_assoc] at S3; exact S3, by rw [prtT]; rw [List.append_assoc] at l3; exact l3⟩
    rw [s70_33]
    simp (disch := first | assumption | decide) only [s70_34, s70_35, s70_38, s70_39, s70_40, s70_43, s70_44, s70_45, s70_46, s70_49, s70_51, s70_52, if_neg e, hm, List.getElem?_cons_zero, List.getElem?_cons_succ, Option.bind_some, Option.toList_some, Option.toList_none, List.cons_append, List.nil_append, fi, a2]
    simp (disch := first | assumption | decide) only [s70_153, s70_156, nI_1]
    exact a3
theorem c_write (S : isSc w0 w t D pl ms) (K : isBl w0 b B) (hb : 21 < b) (hb9 : b < 900) : ∃ D2 pl2 ms2 w2, ex_call X 70 [.ref 15, .ref b] w = some (none, w2) ∧ isSc w0 w2 (telT B) D2 pl2 ms2 ∧ (telT B).length ≤ 808 := by
  obtain ⟨us, ys, zs, Kb, ul, y1, y2, z1, z2, P, sc, l120⟩ := K
  have H := scan_shape sc
  have Y : isBy w0 (b + 1) (b + 2) us B := ⟨Kb.2.1, Kb.2.2.1, Kb.2.2.2.2, Or.inr (by omega), Or.inr (by omega)⟩
  have hbb : b < 1000 := by omega
  have rc := sc_rc S
  obtain ⟨w1, a1, S1⟩ := c_emptyT (X := X) S
  have r16 : ex_rc w 16 1 = true := by
    obtain ⟨xs, R, _⟩ := S.2.2.2.1
    exact ex_rc_o R.1 (by decide) (by decide)
  have rc1 := sc_rc S1
  obtain ⟨w2, a2, S2⟩ := c_word (X := X) (j := 11) (by decide) S1 (by rw [tx11]; simp only [List.length_nil]; omega)
  have a2 : ex_call X 71 [.ref 15, .ref 1012] w1 = some (none, w2) := a2
  have rc2 := sc_rc S2
  have rB2 := sc_rB S2 Y
  have Ks := sc_blk S2 Kb Y hb
  have g0 : ex_gf w2 b 2 0 = some (.ref (b + 1)) := ex_gf_i Ks.1
  have cb : ex_call X 18 [.ref (b + 1), .int 1] w2 = some (some (.int (nI (B.getD 1 0))), w2) := c_byte (X := X) (i := 1) S2 Y (by omega)
  have nl := nB_le _ (Y.2.2.1 1)
  unfold telT
  unfold nB at nl ⊢
  obtain ⟨D3, w3, a3, S3⟩ := c_num0 (X := X) (x := (nI (B.getD 1 0)).toInt64) S2 (by simp only [List.length_append, List.length_singleton, List.length_nil, tx11]; omega)
  have rc3 := sc_rc S3
  obtain ⟨w4, a4, S4⟩ := c_endLine (X := X) S3 (by simp only [List.length_append, List.length_singleton, List.length_nil, tx11]; omega)
  rw [List.nil_append] at S4
  have c0 : cP B 0 = 2 := rfl
  obtain ⟨D5, pl5, ms5, w5, a5, S5, l5⟩ := c_parts (X := X) Kb Y hb H y1 y2 (by omega) P.1 4 0 _ D3 pl ms w4 (by omega) S4 (by simp only [List.length_append, List.length_singleton, tx11]; omega)
  have a5 : ex_go X 70 33 [(0, .ref 15), (1, .ref b), (2, .int 0)] [] w4 = _ := a5
  refine ⟨D5, pl5, ms5, w5, ?_, S5, l5⟩
  show ex_go X 70 0 [(0, .ref 15), (1, .ref b)] [] w = _
  simp (disch := first | assumption | decide) only [s70_0, s70_1, s70_4, s70_7, s70_8, s70_10, s70_13, s70_14, s70_15, s70_16, s70_19, s70_20, s70_23, s70_24, s70_27, s70_28, s70_31, s70_32, sc_gT S, List.getElem?_cons_zero, List.getElem?_cons_succ, Option.bind_some, Option.toList_some, Option.toList_none, List.cons_append, List.nil_append, a1, a2, g0, cb, a3, a4, a5]
end WRITE
section TELL5
variable {X : Option (List Int32)} {w0 w : ex_W} {m : Nat → Int32} {v : Int64} {t : List Nat} {ds bg ln bs : List Int32} {B : List Nat} {p : Nat}
theorem y_tItems {part : Nat} (hk : part ≤ 3) (Y : isBm w0 bs B) (H : shape B) : ∀ (r i p : Nat) (t : List Nat) (ds bg ln : List Int32) (w : ex_W), i + r = B.getD (cP B part) 0 → p = itN B part (cP B part + 1) i → isTx w0 w m v t ds bg ln → t.length + 7 * cP B (part + 1) ≤ 808 + 7 * p → ∃ ds2 bg2 ln2 w2, ex_go X 107 64 [(0, .ref 32), (1, .int (nI p)), (2, .int (nI part)), (3, .int (nI (B.getD (cP B part) 0))), (4, .int (nI i))] [] w = ex_go X 107 83 [(0, .ref 32), (1, .int (nI (cP B (part + 1)))), (2, .int (nI part))] [] w2 ∧ isTx w0 w2 m v (t ++ itsT B part r p) ds2 bg2 ln2 := by
  obtain ⟨h1, h2, h3, h4, h5⟩ := H
  have hc := Y.2.2.2 (cP B part)
  intro r
  induction r with
  | zero =>
    intro i p t ds bg ln w hi hp S hl
    have e : nI (B.getD (cP B part) 0) ≤ nI i := nI_le (by omega) (by omega)
    have ep : p = cP B (part + 1) := by rw [hp, cP, show i = B.getD (cP B part) 0 by omega]
    refine ⟨ds, bg, ln, w, ?_, by rw [itsT, List.append_nil]; exact S⟩
    simp (disch := first | assumption | decide) only [s107_64, s107_66, s107_67, if_pos e]
    rw [ep]
  | succ r ih =>
    intro i p t ds bg ln w hi hp S hl
    have e : ¬ nI (B.getD (cP B part) 0) ≤ nI i := nI_ge (by omega) (by omega)
    have ok := (h4 part (by omega)).2.2 i (by omega)
    rw [← hp] at ok
    have en : iEnd B part p ≤ cP B (part + 1) := by
      rw [hp, ← itN_succ, cP]
      exact itN_mono _ _ (by omega)
    have hpl : p + 2 ≤ iEnd B part p := iEnd_gt B part p
    have il := it_len Y.2.2.2 hk ok.1 h3
    have rc := tx_rc S
    obtain ⟨ds2, bg2, ln2, w2, a2, S2⟩ := y_tellOne (X := X) (p := p) hk S Y ok.1 h3 (by omega)
    obtain ⟨ds3, bg3, ln3, w3, a3, S3⟩ := ih (i + 1) (iEnd B part p) _ ds2 bg2 ln2 w2 (by omega) (by rw [itN_succ, ← hp]) S2 (by simp only [List.length_append, List.length_singleton]; omega)
    refine ⟨ds3, bg3, ln3, w3, ?_, by rw [itsT]; simp only [List.append_assoc] at S3 ⊢; exact S3⟩
    rw [s107_64]
    simp (disch := first | assumption | decide) only [s107_66, s107_67, s107_70, s107_71, s107_72, s107_73, s107_76, s107_77, s107_80, if_neg e, a2, List.getElem?_cons_zero, List.getElem?_cons_succ, Option.bind_some, Option.toList_some, Option.toList_none, List.cons_append, List.nil_append, nI_1]
    exact a3
theorem y_tParts (Y : isBm w0 bs B) (H : shape B) : ∀ (r k : Nat) (t : List Nat) (ds bg ln : List Int32) (w : ex_W), k + r = 4 → isTx w0 w m v t ds bg ln → t.length + 7 * B.length + 7 * k ≤ 808 + 7 * cP B k + 28 → ∃ ds2 bg2 ln2 w2, ex_go X 107 46 [(0, .ref 32), (1, .int (nI (cP B k))), (2, .int (nI k))] [] w = some (none, w2) ∧ isTx w0 w2 m v (t ++ prtT B r k) ds2 bg2 ln2 := by
  have H0 := H
  obtain ⟨h1, h2, h3, h4, h5⟩ := H
  intro r
  induction r with
  | zero =>
    intro k t ds bg ln w hk S hl
    have e : (4 : Int32) ≤ nI k := nI_le (a := 4) (by omega) (by omega)
    refine ⟨ds, bg, ln, w, ?_, by rw [prtT, List.append_nil]; exact S⟩
    simp (disch := first | assumption | decide) only [s107_46, s107_47, s107_48, s107_89, if_pos e]
  | succ r ih =>
    intro k t ds bg ln w hk S hl
    have e : ¬ (4 : Int32) ≤ nI k := nI_ge (b := 4) (by omega) (by decide)
    have s := h4 k (by omega)
    have bl := y_blk (tx_B S Y) (p := cP B k) (by omega)
    have cnx : cP B (k + 1) + 4 ≤ B.length + (k + 1) := by
      by_cases c : k = 3
      · subst c
        have : cP B (3 + 1) = B.length := h5
        omega
      · exact (h4 (k + 1) (by omega)).1
    obtain ⟨ds2, bg2, ln2, w2, a2, S2⟩ := y_tItems (X := X) (part := k) (by omega) Y H0 (B.getD (cP B k) 0) 0 (cP B k + 1) t ds bg ln w (by omega) rfl S (by omega)
    have a2 : ex_go X 107 64 [(0, .ref 32), (1, .int (nI (cP B k + 1))), (2, .int (nI k)), (3, .int (nI (B.getD (cP B k) 0))), (4, .int 0)] [] w = _ := a2
    have iln : ∀ (n p : Nat), (∀ i, i < n → itemOK B k (itN B k p i)) → (itsT B k n p).length + 7 * p ≤ 7 * itN B k p n := by
      intro n
      induction n with
      | zero => intro p _; rw [itsT, itN]; exact Nat.le_of_eq (Nat.zero_add _)
      | succ n ihn =>
        intro p ho
        have o0 := ho 0 (by omega)
        rw [itN] at o0
        have l0 := it_len Y.2.2.2 (part := k) (p := p) (by omega) o0.1 h3
        have := ihn (iEnd B k p) (fun i hi => by
          have := ho (i + 1) (by omega)
          rw [itN] at this
          exact this)
        rw [itsT, itN]
        simp only [List.length_append, List.length_singleton]
        omega
    have l5 : (itsT B k (B.getD (cP B k) 0) (cP B k + 1)).length + 7 * (cP B k + 1) ≤ 7 * cP B (k + 1) := iln (B.getD (cP B k) 0) (cP B k + 1) s.2.2
    obtain ⟨ds3, bg3, ln3, w3, a3, S3⟩ := ih (k + 1) _ ds2 bg2 ln2 w2 (by omega) S2 (by rw [List.length_append]; omega)
    refine ⟨ds3, bg3, ln3, w3, ?_, by rw [prtT]; rw [List.append_assoc] at S3; exact S3⟩
    rw [s107_46]
    simp (disch := first | assumption | decide) only [s107_47, s107_48, s107_51, s107_52, s107_55, s107_56, s107_57, s107_58, s107_61, s107_62, if_neg e, tx_g0 S, List.getElem?_cons_zero, List.getElem?_cons_succ, Option.bind_some, Option.toList_some, Option.toList_none, List.cons_append, List.nil_append, bl, nI_1, a2]
    simp (disch := first | assumption | decide) only [s107_83, s107_86, nI_1]
    exact a3
theorem y_tell (S : isTx w0 w m v t ds bg ln) (Y : isBm w0 bs B) (H : shape B) : ∃ ds2 bg2 ln2 w2, ex_call X 107 [.ref 32] w = some (none, w2) ∧ isTx w0 w2 m v (telT B) ds2 bg2 ln2 := by
  have rc := tx_rc S
  have S0 : isTx w0 (w.set 32 (.inl (8, mo (upd m 9 0) v))) m v [] ds bg ln ∧ ex_pf w 32 8 9 (.int 0) = some (w.set 32 (.inl (8, mo (upd m 9 0) v))) := by
    obtain ⟨s1, s2, s3, ⟨xs, x1, x2, x3⟩, d1, d2, s6, s7, s8, s9⟩ := S
    have pf := ex_pf_i (k := 9) (v := .int 0) s3 (by rw [mo_len]; decide)
    rw [mo_s9, upd_upd] at pf
    exact ⟨⟨by rw [List.length_set]; exact s1, fun j a b => by rw [List.getElem?_set_ne (by omega)]; exact s2 j a b, ex_set_s s3, ⟨xs, ex_set_o (by decide) x1, ⟨Nat.zero_le _, fun j hj => absurd hj (Nat.not_lt_zero _)⟩, x3⟩, ex_set_o (by decide) d1, d2, ex_set_o (by decide) s6, s7, ex_set_o (by decide) s8, s9⟩, pf⟩
  obtain ⟨S1, pf⟩ := S0
  have rc1 := tx_rc S1
  obtain ⟨w2, a2, S2⟩ := y_fiveL (X := X) (a := 98) (b := 108) (c := 111) (d := 99) (e := 107) (xs := txN 11) S1 (by simp only [List.length_nil]; omega) (by decide) (by decide +kernel)
  have a2 : ex_call X 108 [.ref 32, .int 98, .int 108, .int 111, .int 99, .int 107] (w.set 32 (.inl (8, mo (upd m 9 0) v))) = some (none, w2) := a2
  rw [List.nil_append] at S2
  have rc2 := tx_rc S2
  obtain ⟨w3, a3, S3⟩ := y_say (X := X) (c := 32) S2 (by rw [tx11]; omega)
  have a3 : ex_call X 109 [.ref 32, .int 32] w2 = some (none, w3) := a3
  have rc3 := tx_rc S3
  have bl : ex_al w3 33 0 1 = some (nI (B.getD 1 0)) := y_blk (tx_B S3 Y) (p := 1) (by have := H.1; omega)
  have nl := nB_le _ (Y.2.2.2 1)
  unfold telT
  unfold nB at nl ⊢
  obtain ⟨ds4, w4, a4, S4⟩ := y_number (X := X) (x := (nI (B.getD 1 0)).toInt64) S3 (by simp only [List.length_append, List.length_singleton, tx11]; omega)
  have rc4 := tx_rc S4
  obtain ⟨w5, a5, S5⟩ := y_say (X := X) (c := 10) S4 (by simp only [List.length_append, List.length_singleton, tx11]; omega)
  have a5 : ex_call X 109 [.ref 32, .int 10] w4 = some (none, w5) := a5
  have c0 : cP B 0 = 2 := rfl
  have hB := H.2.2.1
  obtain ⟨ds6, bg6, ln6, w6, a6, S6⟩ := y_tParts (X := X) Y H 4 0 _ ds4 bg ln w5 (by omega) S5 (by simp only [List.length_append, List.length_singleton, tx11]; omega)
  have a6 : ex_go X 107 46 [(0, .ref 32), (1, .int 2), (2, .int 0)] [] w5 = _ := a6
  refine ⟨ds6, bg6, ln6, w6, ?_, S6⟩
  show ex_go X 107 0 [(0, .ref 32)] [] w = _
  simp (disch := first | assumption | decide) only [s107_0, s107_1, s107_2, s107_5, s107_6, s107_8, s107_10, s107_12, s107_14, s107_16, s107_19, s107_20, s107_22, s107_25, s107_26, s107_27, s107_30, s107_31, s107_32, s107_33, s107_36, s107_37, s107_39, s107_42, s107_43, s107_44, s107_45, pf, List.getElem?_cons_zero, List.getElem?_cons_succ, Option.bind_some, Option.toList_some, Option.toList_none, List.cons_append, List.nil_append, a2, a3, tx_g0 S3, bl, a4, a5, a6]
end TELL5
