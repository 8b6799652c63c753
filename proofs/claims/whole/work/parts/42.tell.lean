/-! the other object's bytes, names and pairs -/
section TELL3
variable {X : Option (List Int32)} {w0 w : ex_W} {m : Nat → Int32} {v : Int64} {t : List Nat} {ds bg ln bs : List Int32} {B : List Nat}
theorem y_wideLoop (M : isB w m v bs B) {p n : Nat} (hn : n ≤ 8) (hp : p + n ≤ B.length) : ∀ (k i : Nat), i + k = n → ex_go X 113 22 [(0, .ref 32), (1, .int (nI p)), (2, .int (nI n)), (3, .long (wdN B p i)), (5, .int (nI (p + i)))] [] w = some (some (.long (wdN B p n)), w) := by
  have g : ex_gf w 32 8 0 = some (.ref 33) := (ex_gf_i M.1).trans mo_0
  have hbl : B.length ≤ 130 := by have := M.2.2.2.1.1; have := M.2.2.1; omega
  intro k
  induction k with
  | zero =>
    intro i hi
    have e : nI (p + n) ≤ nI (p + i) := nI_le (by omega) (by omega)
    simp (disch := first | assumption | decide) only [s113_0, s113_1, s113_4, s113_5, s113_6, s113_8, s113_11, s113_14, s113_17, s113_18, s113_19, s113_20, s113_22, s113_24, s113_25, s113_26, s113_27, s113_30, s113_31, s113_34, s113_35, s113_36, s113_39, s113_41, s113_42, s113_43, s113_44, s113_45, s113_48, s113_51, s113_52, nI_add, if_pos e]
    rw [show i = n by omega]
  | succ k ih =>
    intro i hi
    have e : ¬ nI (p + n) ≤ nI (p + i) := nI_ge (by omega) (by omega)
    have h0 := y_blk M (p := p + i) (by omega)
    have ih := ih (i + 1) (by omega)
    rw [wdN] at ih
    rw [← ih, s113_22]
    simp (disch := first | assumption | decide) only [s113_0, s113_1, s113_4, s113_5, s113_6, s113_8, s113_11, s113_14, s113_17, s113_18, s113_19, s113_20, s113_24, s113_25, s113_26, s113_27, s113_30, s113_31, s113_34, s113_35, s113_36, s113_39, s113_41, s113_42, s113_43, s113_44, s113_45, s113_48, s113_51, s113_52, nI_add, if_neg e, List.getElem?_cons_zero, List.getElem?_cons_succ, Option.bind_some, Option.toList_some, Option.toList_none, List.cons_append, List.nil_append, g, h0, nI_1]
    rfl
theorem y_wide (M : isB w m v bs B) {p n : Nat} (hn : n ≤ 8) (h1 : 1 ≤ n) (hp : p + n ≤ B.length) : ex_call X 113 [.ref 32, .int (nI p), .int (nI n)] w = some (some (.long (wdN B p n)), w) := by
  have g : ex_gf w 32 8 0 = some (.ref 33) := (ex_gf_i M.1).trans mo_0
  have h0 := y_blk M (p := p) (by omega)
  have hb := M.2.2.2.2 p
  have lp := y_wideLoop (X := X) M hn hp n 0 (by omega)
  rw [Nat.add_zero, wdN] at lp
  show ex_go X 113 0 [(0, .ref 32), (1, .int (nI p)), (2, .int (nI n))] [] w = _
  by_cases c : 127 < B.getD p 0
  · have e : ¬ nI (B.getD p 0) ≤ 127 := nI_ge (a := 127) c (by omega)
    rw [if_pos c] at lp
    simp (disch := first | assumption | decide) only [s113_0, s113_1, s113_4, s113_5, s113_6, s113_8, s113_11, s113_14, s113_17, s113_18, s113_19, s113_20, g, List.getElem?_cons_zero, List.getElem?_cons_succ, Option.bind_some, Option.toList_some, Option.toList_none, List.cons_append, List.nil_append, h0, if_neg e, lp]
  · have e : nI (B.getD p 0) ≤ 127 := nI_le (b := 127) (by omega) (by decide)
    rw [if_neg c] at lp
    simp (disch := first | assumption | decide) only [s113_0, s113_1, s113_4, s113_5, s113_6, s113_8, s113_11, s113_14, s113_17, s113_18, s113_19, s113_20, g, List.getElem?_cons_zero, List.getElem?_cons_succ, Option.bind_some, Option.toList_some, Option.toList_none, List.cons_append, List.nil_append, h0, if_pos e, lp]
theorem y_bytesLoop (Y : isBm w0 bs B) {p n : Nat} (hp : p + n ≤ B.length) : ∀ (k i : Nat) (t : List Nat) (w : ex_W), i + k = n → isTx w0 w m v t ds bg ln → t.length + 2 * k ≤ 1000 → ∃ w2, ex_go X 115 8 [(0, .ref 32), (1, .int (nI p)), (2, .int (nI n)), (3, .int (nI (p + i)))] [] w = some (none, w2) ∧ isTx w0 w2 m v (t ++ hexL B (p + i) k) ds bg ln := by
  have hbl : B.length ≤ 130 := by have := Y.2.2.1.1; have := Y.2.1; omega
  intro k
  induction k with
  | zero =>
    intro i t w hi S hl
    have e : nI (p + n) ≤ nI (p + i) := nI_le (by omega) (by omega)
    refine ⟨w, ?_, by rw [hexL, List.append_nil]; exact S⟩
    simp (disch := first | assumption | decide) only [s115_0, s115_1, s115_3, s115_6, s115_7, s115_8, s115_9, s115_10, s115_11, s115_12, s115_15, s115_16, s115_19, s115_20, s115_21, s115_23, s115_24, s115_26, s115_27, s115_30, s115_31, s115_32, s115_34, s115_35, s115_37, s115_38, s115_40, s115_42, s115_45, s115_47, s115_49, s115_50, s115_53, s115_55, s115_57, s115_58, s115_60, s115_61, s115_64, s115_65, s115_67, s115_69, s115_72, s115_74, s115_76, s115_77, s115_80, s115_82, s115_84, s115_85, s115_87, s115_88, s115_91, s115_94, s115_97, nI_add, if_pos e]
  | succ k ih =>
    intro i t w hi S hl
    have e : ¬ nI (p + n) ≤ nI (p + i) := nI_ge (by omega) (by omega)
    have hb := Y.2.2.2 (p + i)
    have h0 := y_blk (tx_B S Y) (p := p + i) (by omega)
    obtain ⟨w2, h1, h2⟩ := y_say (X := X) (c := hx (B.getD (p + i) 0 / 16)) S (by omega)
    obtain ⟨w3, h3, h4⟩ := y_say (X := X) (c := hx (B.getD (p + i) 0 % 16)) h2 (by rw [List.length_append, List.length_singleton]; omega)
    obtain ⟨w4, h5, h6⟩ := ih (i + 1) _ w3 (by omega) h4 (by rw [List.length_append, List.length_append, List.length_singleton, List.length_singleton]; omega)
    refine ⟨w4, ?_, ?_⟩
    · have rc := tx_rc S
      have rc2 := tx_rc h2
      have dv : nI (B.getD (p + i) 0) / 16 = nI (B.getD (p + i) 0 / 16) := pk_div (d := 16) (by omega) (by decide) (by decide)
      have rm : nI (B.getD (p + i) 0) - nI (B.getD (p + i) 0 / 16) * 16 = nI (B.getD (p + i) 0 % 16) := by
        rw [← dv]
        exact pk_rem (d := 16) (by omega) (by decide) (by decide)
      have z16 : ¬ (16 : Int32) = 0 := by decide
      have hxs : ∀ (d : Nat) (Y1 Y2 : Int32 → ex_O), d < 16 → (if (10 : Int32) ≤ nI d then Y1 (97 + nI d - 10) else Y1 (48 + nI d)) = Y1 (nI (hx d)) := by
        intro d Y1 Y2 hd
        unfold hx
        by_cases c : d < 10
        · have e : ¬ (10 : Int32) ≤ nI d := nI_ge (b := 10) c (by decide)
          have ad : 48 + nI d = nI (48 + d) := nI_add 48 d
          rw [if_neg e, if_pos c, ad]
        · have e : (10 : Int32) ≤ nI d := nI_le (a := 10) (by omega) (by omega)
          have ad : 97 + nI d = nI (97 + d) := nI_add 97 d
          have sb : nI (97 + d) - 10 = nI (87 + d) := by
            have := pk_sub (a := 97 + d) (b := 10) (by omega)
            rw [show 97 + d - 10 = 87 + d by omega] at this
            exact this
          rw [if_pos e, if_neg c, ad, sb]
      have s1 : ex_go X 115 37 [(0, .ref 32), (1, .int (nI p)), (2, .int (nI n)), (3, .int (nI (p + i))), (4, .int (nI (B.getD (p + i) 0 / 16))), (5, .int (nI (B.getD (p + i) 0 % 16)))] [] w = ex_go X 115 61 [(0, .ref 32), (1, .int (nI p)), (2, .int (nI n)), (3, .int (nI (p + i))), (5, .int (nI (B.getD (p + i) 0 % 16)))] [.int (nI (hx (B.getD (p + i) 0 / 16))), .ref 32] w := by
        simp (disch := first | assumption | decide) only [s115_37, s115_38, s115_40, s115_42, s115_45, s115_47, s115_49, s115_50, s115_53, s115_55, s115_57, s115_58, s115_60]
        exact hxs (B.getD (p + i) 0 / 16) (fun x => ex_go X 115 61 [(0, .ref 32), (1, .int (nI p)), (2, .int (nI n)), (3, .int (nI (p + i))), (5, .int (nI (B.getD (p + i) 0 % 16)))] [.int x, .ref 32] w) (fun _ => none) (by omega)
      have s2 : ex_go X 115 64 [(0, .ref 32), (1, .int (nI p)), (2, .int (nI n)), (3, .int (nI (p + i))), (5, .int (nI (B.getD (p + i) 0 % 16)))] [] w2 = ex_go X 115 88 [(0, .ref 32), (1, .int (nI p)), (2, .int (nI n)), (3, .int (nI (p + i)))] [.int (nI (hx (B.getD (p + i) 0 % 16))), .ref 32] w2 := by
        simp (disch := first | assumption | decide) only [s115_64, s115_65, s115_67, s115_69, s115_72, s115_74, s115_76, s115_77, s115_80, s115_82, s115_84, s115_85, s115_87]
        exact hxs (B.getD (p + i) 0 % 16) (fun x => ex_go X 115 88 [(0, .ref 32), (1, .int (nI p)), (2, .int (nI n)), (3, .int (nI (p + i)))] [.int x, .ref 32] w2) (fun _ => none) (by omega)
      rw [s115_8]
      simp (disch := first | assumption | decide) only [s115_9, s115_10, s115_11, s115_12, s115_15, s115_16, s115_19, s115_20, s115_21, s115_23, s115_24, s115_26, s115_27, s115_30, s115_31, s115_32, s115_34, s115_35, nI_add, if_neg e, tx_g0 S, List.getElem?_cons_zero, List.getElem?_cons_succ, Option.bind_some, Option.toList_some, Option.toList_none, List.cons_append, List.nil_append, h0, dv, rm]
      rw [s1]
      simp (disch := first | assumption | decide) only [s115_61, h1, List.getElem?_cons_zero, List.getElem?_cons_succ, Option.bind_some, Option.toList_some, Option.toList_none, List.cons_append, List.nil_append]
      rw [s2]
      simp (disch := first | assumption | decide) only [s115_88, s115_91, s115_94, h3, List.getElem?_cons_zero, List.getElem?_cons_succ, Option.bind_some, Option.toList_some, Option.toList_none, List.cons_append, List.nil_append, nI_1]
      exact h5
    · rw [hexL]
      simp only [List.append_assoc, List.cons_append, List.nil_append, Nat.add_assoc] at h6 ⊢
      exact h6
theorem y_sayBytes (S : isTx w0 w m v t ds bg ln) (Y : isBm w0 bs B) {p n : Nat} (hp : p + n ≤ B.length) (hl : t.length + (bytesT B p n).length ≤ 1000) : ∃ w2, ex_call X 115 [.ref 32, .int (nI p), .int (nI n)] w = some (none, w2) ∧ isTx w0 w2 m v (t ++ bytesT B p n) ds bg ln := by
  rw [bytesT_len] at hl
  obtain ⟨w2, h1, h2⟩ := y_say (X := X) (c := 120) S (by omega)
  obtain ⟨w3, h3, h4⟩ := y_bytesLoop (X := X) Y hp n 0 _ w2 (by omega) h2 (by rw [List.length_append, List.length_singleton]; omega)
  refine ⟨w3, ?_, ?_⟩
  · have rc := tx_rc S
    have h1 : ex_call X 109 [.ref 32, .int 120] w = some (none, w2) := h1
    rw [Nat.add_zero] at h3
    show ex_go X 115 0 [(0, .ref 32), (1, .int (nI p)), (2, .int (nI n))] [] w = _
    simp (disch := first | assumption | decide) only [s115_0, s115_1, s115_3, s115_6, s115_7, List.getElem?_cons_zero, List.getElem?_cons_succ, Option.bind_some, Option.toList_some, Option.toList_none, List.cons_append, List.nil_append, h1, h3]
  · unfold bytesT
    simp only [List.append_assoc, List.cons_append, List.nil_append, Nat.add_zero] at h4 ⊢
    exact h4
theorem y_plainLoop (M : isB w m v bs B) {p n : Nat} (hp : p + n ≤ B.length) : ∀ (k i : Nat) (b : Bool), i + k = n → ex_go X 114 13 [(0, .ref 32), (1, .int (nI p)), (2, .int (nI n)), (3, .int (if b = true then 1 else 0)), (4, .int (nI (p + i)))] [] w = ex_go X 114 73 [(0, .ref 32), (1, .int (nI p)), (2, .int (nI n)), (3, .int (if (b && plainN B (p + i) k) = true then 1 else 0))] [] w := by
  have g : ex_gf w 32 8 0 = some (.ref 33) := (ex_gf_i M.1).trans mo_0
  have hbl : B.length ≤ 130 := by have := M.2.2.2.1.1; have := M.2.2.1; omega
  have n1 : ¬ (1 : Int32) = 0 := by decide
  intro k
  induction k with
  | zero =>
    intro i b hi
    have e : nI (p + n) ≤ nI (p + i) := nI_le (by omega) (by omega)
    rw [plainN, Bool.and_true]
    simp (disch := first | assumption | decide) only [s114_13, s114_15, s114_16, s114_17, s114_18, nI_add, if_pos e]
  | succ k ih =>
    intro i b hi
    have e : ¬ nI (p + n) ≤ nI (p + i) := nI_ge (by omega) (by omega)
    have hb := M.2.2.2.2 (p + i)
    have h0 := y_blk M (p := p + i) (by omega)
    have ih1 := ih (i + 1) true (by omega)
    have ih0 := ih (i + 1) false (by omega)
    rw [show p + (i + 1) = p + i + 1 by omega] at ih1 ih0
    rw [Bool.true_and, if_pos rfl] at ih1
    rw [Bool.false_and, if_neg Bool.false_ne_true] at ih0
    cases b with
    | false =>
      rw [Bool.false_and, if_neg Bool.false_ne_true, ← ih0, s114_13]
      simp (disch := first | assumption | decide) only [s114_15, s114_16, s114_17, s114_18, s114_21, s114_22, s114_25, s114_26, s114_29, s114_31, s114_32, s114_34, s114_37, s114_38, s114_41, s114_43, s114_44, s114_46, s114_49, s114_50, s114_53, s114_55, s114_56, s114_58, s114_61, s114_62, s114_65, s114_66, s114_67, s114_70, nI_add, if_neg e, if_true, nI_1]
    | true =>
      rw [Bool.true_and, if_pos rfl]
      by_cases c1 : 33 ≤ B.getD (p + i) 0
      · have e1 : ¬ nI (B.getD (p + i) 0) < 33 := nI_nlt (b := 33) c1 (by omega)
        by_cases c2 : B.getD (p + i) 0 ≤ 126
        · have e2 : ¬ 126 < nI (B.getD (p + i) 0) := nI_nlt (a := 126) c2 (by decide)
          by_cases c3 : B.getD (p + i) 0 = 34
          · have e3 : nI (B.getD (p + i) 0) = 34 := by rw [c3]; decide
            have pv : plainN B (p + i) (k + 1) = false := by rw [plainN, if_neg (fun z => z.2.2 c3)]
            rw [pv, if_neg Bool.false_ne_true, ← ih0, s114_13]
            simp (disch := first | assumption | decide) only [s114_15, s114_16, s114_17, s114_18, s114_21, s114_22, s114_25, s114_26, s114_29, s114_31, s114_32, s114_34, s114_37, s114_38, s114_41, s114_43, s114_44, s114_46, s114_49, s114_50, s114_53, s114_55, s114_56, s114_58, s114_61, s114_62, s114_65, s114_66, s114_67, s114_70, nI_add, if_neg e, if_neg n1, g, List.getElem?_cons_zero, List.getElem?_cons_succ, Option.bind_some, Option.toList_some, Option.toList_none, List.cons_append, List.nil_append, h0, if_neg e1, if_neg e2, if_pos e3, nI_1]
          · have e3 : ¬ nI (B.getD (p + i) 0) = 34 := fun z => c3 ((nI_eq (b := 34) (by omega) (by decide)).mp z)
            have pv : plainN B (p + i) (k + 1) = plainN B (p + i + 1) k := by rw [plainN, if_pos ⟨c1, c2, c3⟩]
            rw [pv, ← ih1, s114_13]
            simp (disch := first | assumption | decide) only [s114_15, s114_16, s114_17, s114_18, s114_21, s114_22, s114_25, s114_26, s114_29, s114_31, s114_32, s114_34, s114_37, s114_38, s114_41, s114_43, s114_44, s114_46, s114_49, s114_50, s114_53, s114_55, s114_56, s114_58, s114_61, s114_62, s114_65, s114_66, s114_67, s114_70, nI_add, if_neg e, if_neg n1, g, List.getElem?_cons_zero, List.getElem?_cons_succ, Option.bind_some, Option.toList_some, Option.toList_none, List.cons_append, List.nil_append, h0, if_neg e1, if_neg e2, if_neg e3, nI_1]
        · have e2 : 126 < nI (B.getD (p + i) 0) := nI_lt (a := 126) (by omega) (by omega)
          have pv : plainN B (p + i) (k + 1) = false := by rw [plainN, if_neg (fun z => c2 z.2.1)]
          rw [pv, if_neg Bool.false_ne_true, ← ih0, s114_13]
          simp (disch := first | assumption | decide) only [s114_15, s114_16, s114_17, s114_18, s114_21, s114_22, s114_25, s114_26, s114_29, s114_31, s114_32, s114_34, s114_37, s114_38, s114_41, s114_43, s114_44, s114_46, s114_49, s114_50, s114_53, s114_55, s114_56, s114_58, s114_61, s114_62, s114_65, s114_66, s114_67, s114_70, nI_add, if_neg e, if_neg n1, g, List.getElem?_cons_zero, List.getElem?_cons_succ, Option.bind_some, Option.toList_some, Option.toList_none, List.cons_append, List.nil_append, h0, if_neg e1, if_pos e2, nI_1]
      · have e1 : nI (B.getD (p + i) 0) < 33 := nI_lt (b := 33) (by omega) (by decide)
        have pv : plainN B (p + i) (k + 1) = false := by rw [plainN, if_neg (fun z => c1 z.1)]
        rw [pv, if_neg Bool.false_ne_true, ← ih0, s114_13]
        simp (disch := first | assumption | decide) only [s114_15, s114_16, s114_17, s114_18, s114_21, s114_22, s114_25, s114_26, s114_29, s114_31, s114_32, s114_34, s114_37, s114_38, s114_41, s114_43, s114_44, s114_46, s114_49, s114_50, s114_53, s114_55, s114_56, s114_58, s114_61, s114_62, s114_65, s114_66, s114_67, s114_70, nI_add, if_neg e, if_neg n1, g, List.getElem?_cons_zero, List.getElem?_cons_succ, Option.bind_some, Option.toList_some, Option.toList_none, List.cons_append, List.nil_append, h0, if_pos e1, nI_1]
theorem y_rawLoop (Y : isBm w0 bs B) {p n : Nat} (hp : p + n ≤ B.length) : ∀ (k i : Nat) (t : List Nat) (w : ex_W), i + k = n → isTx w0 w m v t ds bg ln → t.length + k + 1 ≤ 1000 → ∃ w2, ex_go X 114 93 [(0, .ref 32), (1, .int (nI p)), (2, .int (nI n)), (4, .int (nI (p + i)))] [] w = some (none, w2) ∧ isTx w0 w2 m v (t ++ rawL B (p + i) k ++ [34]) ds bg ln := by
  have hbl : B.length ≤ 130 := by have := Y.2.2.1.1; have := Y.2.1; omega
  intro k
  induction k with
  | zero =>
    intro i t w hi S hl
    have e : nI (p + n) ≤ nI (p + i) := nI_le (by omega) (by omega)
    obtain ⟨w2, h1, h2⟩ := y_say (X := X) (c := 34) S (by omega)
    refine ⟨w2, ?_, by rw [rawL, List.append_nil]; exact h2⟩
    have h1 : ex_call X 109 [.ref 32, .int 34] w = some (none, w2) := h1
    have rc := tx_rc S
    simp (disch := first | assumption | decide) only [s114_93, s114_95, s114_96, s114_97, s114_98, s114_101, s114_102, s114_103, s114_106, s114_108, s114_109, s114_112, s114_115, s114_118, s114_119, s114_121, s114_124, nI_add, if_pos e, h1, List.getElem?_cons_zero, List.getElem?_cons_succ, Option.bind_some, Option.toList_some, Option.toList_none, List.cons_append, List.nil_append]
  | succ k ih =>
    intro i t w hi S hl
    have e : ¬ nI (p + n) ≤ nI (p + i) := nI_ge (by omega) (by omega)
    have h0 := y_blk (tx_B S Y) (p := p + i) (by omega)
    obtain ⟨w2, h1, h2⟩ := y_say (X := X) (c := B.getD (p + i) 0) S (by omega)
    obtain ⟨w4, h5, h6⟩ := ih (i + 1) _ w2 (by omega) h2 (by rw [List.length_append, List.length_singleton]; omega)
    refine ⟨w4, ?_, ?_⟩
    · have rc := tx_rc S
      rw [s114_93]
      simp (disch := first | assumption | decide) only [s114_95, s114_96, s114_97, s114_98, s114_101, s114_102, s114_103, s114_106, s114_108, s114_109, s114_112, s114_115, nI_add, if_neg e, tx_g0 S, List.getElem?_cons_zero, List.getElem?_cons_succ, Option.bind_some, Option.toList_some, Option.toList_none, List.cons_append, List.nil_append, h0, h1, nI_1]
      exact h5
    · rw [rawL]
      simp only [List.append_assoc, List.cons_append, List.nil_append, Nat.add_assoc] at h6 ⊢
      exact h6
theorem y_name (S : isTx w0 w m v t ds bg ln) (Y : isBm w0 bs B) {p n : Nat} (hp : p + n ≤ B.length) (hl : t.length + 2 * n + 2 ≤ 1000) : ∃ w2, ex_call X 114 [.ref 32, .int (nI p), .int (nI n)] w = some (none, w2) ∧ isTx w0 w2 m v (t ++ nameT B p n) ds bg ln := by
  have hbl : B.length ≤ 130 := by have := Y.2.2.1.1; have := Y.2.1; omega
  have rc := tx_rc S
  have pn := y_plainLoop (X := X) (tx_B S Y) hp n 0 (decide (0 < n)) (by omega)
  rw [Nat.add_zero] at pn
  have st : ex_call X 114 [.ref 32, .int (nI p), .int (nI n)] w = ex_go X 114 13 [(0, .ref 32), (1, .int (nI p)), (2, .int (nI n)), (3, .int (if decide (0 < n) = true then 1 else 0)), (4, .int (nI p))] [] w := by
    show ex_go X 114 0 [(0, .ref 32), (1, .int (nI p)), (2, .int (nI n))] [] w = _
    by_cases c : 0 < n
    · have e : ¬ nI n ≤ 0 := nI_ge (a := 0) c (by omega)
      simp (disch := first | assumption | decide) only [s114_0, s114_1, s114_4, s114_5, s114_8, s114_9, s114_10, s114_11, if_neg e, c, decide_true, if_true]
    · have e : nI n ≤ 0 := nI_le (b := 0) (by omega) (by decide)
      simp (disch := first | assumption | decide) only [s114_0, s114_1, s114_4, s114_5, s114_8, s114_9, s114_10, s114_11, if_pos e, c, decide_false, Bool.false_eq_true, if_false]
  rw [st, pn]
  unfold nameT
  by_cases c : 0 < n ∧ plainN B p n = true
  · have n1 : ¬ (1 : Int32) = 0 := by decide
    have cb : (decide (0 < n) && plainN B p n) = true := by rw [c.2, Bool.and_true]; exact decide_eq_true c.1
    rw [if_pos cb, if_pos c]
    obtain ⟨w2, h1, h2⟩ := y_say (X := X) (c := 34) S (by omega)
    obtain ⟨w3, h3, h4⟩ := y_rawLoop (X := X) Y hp n 0 _ w2 (by omega) h2 (by rw [List.length_append, List.length_singleton]; omega)
    refine ⟨w3, ?_, ?_⟩
    · have h1 : ex_call X 109 [.ref 32, .int 34] w = some (none, w2) := h1
      rw [Nat.add_zero] at h3
      simp (disch := first | assumption | decide) only [s114_73, s114_74, s114_77, s114_78, s114_79, s114_80, s114_83, s114_84, s114_85, s114_87, s114_90, s114_91, if_pos n1, h1, List.getElem?_cons_zero, List.getElem?_cons_succ, Option.bind_some, Option.toList_some, Option.toList_none, List.cons_append, List.nil_append, h3]
    · simp only [List.append_assoc, List.cons_append, List.nil_append, Nat.add_zero] at h4 ⊢
      exact h4
  · have cb : ¬ (decide (0 < n) && plainN B p n) = true := by
      intro z
      rw [Bool.and_eq_true, decide_eq_true_eq] at z
      exact c z
    rw [if_neg cb, if_neg c]
    obtain ⟨w2, h1, h2⟩ := y_sayBytes (X := X) S Y hp (by rw [bytesT_len]; omega)
    refine ⟨w2, ?_, h2⟩
    simp (disch := first | assumption | decide) only [s114_73, s114_74, s114_77, s114_78, s114_79, s114_80, s114_83, not_true_eq_false, if_false, h1, List.getElem?_cons_zero, List.getElem?_cons_succ, Option.bind_some, Option.toList_some, Option.toList_none, List.cons_append, List.nil_append]
theorem y_pair {a b : Nat} (S : isTx w0 w m v t ds bg ln) (ha : a < 256) (hb : b < 256) (hl : t.length + (numN (nI a).toInt64).length + (numN (nI b).toInt64).length + 2 ≤ 1000) : ∃ ds2 w2, ex_call X 116 [.ref 32, .int (nI a), .int (nI b)] w = some (none, w2) ∧ isTx w0 w2 m v (t ++ [32] ++ numN (nI a).toInt64 ++ [32] ++ numN (nI b).toInt64) ds2 bg ln := by
  obtain ⟨w1, a1, S1⟩ := y_say (X := X) (c := 32) S (by omega)
  obtain ⟨d2, w2, a2, S2⟩ := y_number (X := X) (x := (nI a).toInt64) S1 (by simp only [List.length_append, List.length_singleton]; omega)
  obtain ⟨w3, a3, S3⟩ := y_say (X := X) (c := 32) S2 (by simp only [List.length_append, List.length_singleton]; omega)
  obtain ⟨d4, w4, a4, S4⟩ := y_number (X := X) (x := (nI b).toInt64) S3 (by simp only [List.length_append, List.length_singleton]; omega)
  refine ⟨d4, w4, ?_, S4⟩
  have a1 : ex_call X 109 [.ref 32, .int 32] w = some (none, w1) := a1
  have a3 : ex_call X 109 [.ref 32, .int 32] w2 = some (none, w3) := a3
  have r1 := tx_rc S
  have r2 := tx_rc S1
  have r3 := tx_rc S2
  have r4 := tx_rc S3
  show ex_go X 116 0 [(0, .ref 32), (1, .int (nI a)), (2, .int (nI b))] [] w = _
  simp (disch := first | assumption | decide) only [s116_0, s116_1, s116_3, s116_6, s116_7, s116_8, s116_9, s116_12, s116_13, s116_15, s116_18, s116_19, s116_20, s116_21, s116_24, a1, a2, a3, a4, List.getElem?_cons_zero, List.getElem?_cons_succ, Option.bind_some, Option.toList_some, Option.toList_none, List.cons_append, List.nil_append]
end TELL3
