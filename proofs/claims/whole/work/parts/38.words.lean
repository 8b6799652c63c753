/-! words, bare bytes and names in the scribe's text -/
def txN (j : Nat) : List Nat := (kX j).map Int32.toNatClampNeg
theorem txN_ok : ∀ j, j < 33 → ((txN j).length = (kX j).length ∧ (kX j).length < 10 ∧ ∀ i, i < (kX j).length → (kX j).getD i 0 = nI ((txN j).getD i 0)) := by decide +kernel
theorem drop_getD {l : List Nat} {i : Nat} (h : i < l.length) : l.drop i = l.getD i 0 :: l.drop (i + 1) := by
  rw [List.drop_eq_getElem_cons h, List.getD_eq_getElem?_getD, List.getElem?_eq_getElem h]
  rfl
def hx (d : Nat) : Nat := if d < 10 then 48 + d else 87 + d
def hexL (B : List Nat) : Nat → Nat → List Nat
  | _, 0 => []
  | p, n + 1 => hx (B.getD p 0 / 16) :: hx (B.getD p 0 % 16) :: hexL B (p + 1) n
def rawL (B : List Nat) : Nat → Nat → List Nat
  | _, 0 => []
  | p, n + 1 => B.getD p 0 :: rawL B (p + 1) n
def plainN (B : List Nat) : Nat → Nat → Bool
  | _, 0 => true
  | p, n + 1 => if 33 ≤ B.getD p 0 ∧ B.getD p 0 ≤ 126 ∧ ¬ B.getD p 0 = 34 then plainN B (p + 1) n else false
def bytesT (B : List Nat) (p n : Nat) : List Nat := 120 :: hexL B p n
def nameT (B : List Nat) (p n : Nat) : List Nat := if 0 < n ∧ plainN B p n = true then 34 :: (rawL B p n ++ [34]) else bytesT B p n
theorem hexL_len {B : List Nat} : ∀ (n p : Nat), (hexL B p n).length = 2 * n
  | 0, _ => rfl
  | n + 1, p => by rw [hexL, List.length_cons, List.length_cons, hexL_len n (p + 1)]; omega
theorem rawL_len {B : List Nat} : ∀ (n p : Nat), (rawL B p n).length = n
  | 0, _ => rfl
  | n + 1, p => by rw [rawL, List.length_cons, rawL_len n (p + 1)]
theorem bytesT_len {B : List Nat} {p n : Nat} : (bytesT B p n).length = 2 * n + 1 := by unfold bytesT; rw [List.length_cons, hexL_len]
theorem nameT_len {B : List Nat} {p n : Nat} : (nameT B p n).length ≤ 2 * n + 2 := by
  unfold nameT
  split
  next h => rw [List.length_cons, List.length_append, rawL_len, List.length_singleton]; omega
  next => rw [bytesT_len]; omega
/-- a row of bytes that the scribe doesn't touch -/
def isBy (w0 : ex_W) (q a : Nat) (us : List Int32) (B : List Nat) : Prop := isRow w0 q a us B.length ∧ holds us B ∧ (∀ j, B.getD j 0 < 256) ∧ (q < 16 ∨ 21 < q) ∧ (a < 16 ∨ 21 < a)
section WORDS
variable {X : Option (List Int32)} {w0 w : ex_W} {t D : List Nat} {pl : Nat} {ms : List Int32} {q a : Nat} {us : List Int32} {B : List Nat}
theorem sc_by (S : isSc w0 w t D pl ms) (Y : isBy w0 q a us B) : isRow w q a us B.length := ⟨(S.2.1 q Y.2.2.2.1).trans Y.1.1, (S.2.1 a Y.2.2.2.2).trans Y.1.2.1, Y.1.2.2⟩
theorem c_byte {i : Nat} (S : isSc w0 w t D pl ms) (Y : isBy w0 q a us B) (hi : i < 2 ^ 31) : ex_call X 18 [.ref q, .int (nI i)] w = some (some (.int (nI (B.getD i 0))), w) := r_cellB (sc_by S Y) Y.2.1 hi
theorem sc_rB (S : isSc w0 w t D pl ms) (Y : isBy w0 q a us B) : ex_rc w q 1 = true := ex_rc_o (sc_by S Y).1 (sc_by S Y).2.2.2.2.1 (by decide)
theorem c_wordLoop {j : Nat} (hj : j < 33) : ∀ (k i : Nat) (t : List Nat) (w : ex_W), i + k = (kX j).length → isSc w0 w t D pl ms → t.length + k + 1 ≤ 808 → ∃ w2, ex_go X 71 2 [(0, .ref 15), (1, .ref (1001 + j)), (2, .int (nI i))] [] w = some (none, w2) ∧ isSc w0 w2 (t ++ (txN j).drop i ++ [32]) D pl ms := by
  have hx := txN_ok j hj
  have tr : ∀ w : ex_W, ex_rc w (1001 + j) 999 = true := fun w => t_rc hj
  intro k
  induction k with
  | zero =>
    intro i t w hi S hl
    have e : nI (kX j).length ≤ nI i := nI_le (by omega) (by omega)
    obtain ⟨w2, h1, h2⟩ := c_say (X := X) (c := 32) S (by omega)
    refine ⟨w2, ?_, ?_⟩
    · have h1 : ex_call X 17 [.ref 16, .int 32] w = some (none, w2) := h1
      have rT := sc_rT S
      have r1 := tr w
      simp (disch := first | assumption | decide) only [s71_0, s71_1, s71_2, s71_3, s71_4, s71_7, s71_10, s71_11, s71_14, s71_15, s71_16, s71_19, s71_22, s71_25, s71_28, s71_29, s71_32, s71_34, s71_37, t_length hj, List.getElem?_cons_zero, List.getElem?_cons_succ, Option.bind_some, Option.toList_some, Option.toList_none, List.cons_append, List.nil_append, if_pos e, sc_gT S, h1]
    · rw [List.drop_eq_nil_of_le (by omega), List.append_nil]
      exact h2
  | succ k ih =>
    intro i t w hi S hl
    have e : ¬ nI (kX j).length ≤ nI i := nI_ge (by omega) (by omega)
    obtain ⟨w2, h1, h2⟩ := c_say (X := X) (c := (txN j).getD i 0) S (by omega)
    obtain ⟨w3, h3, h4⟩ := ih (i + 1) _ w2 (by omega) h2 (by rw [List.length_append, List.length_singleton]; omega)
    refine ⟨w3, ?_, ?_⟩
    · have rT := sc_rT S
      have r1 := tr w
      have ca := t_charAt (X := X) (w := w) (i := i) hj (by omega)
      rw [hx.2.2 i (by omega)] at ca
      rw [s71_2]
      simp (disch := first | assumption | decide) only [s71_0, s71_1, s71_3, s71_4, s71_7, s71_10, s71_11, s71_14, s71_15, s71_16, s71_19, s71_22, s71_25, s71_28, s71_29, s71_32, s71_34, s71_37, t_length hj, List.getElem?_cons_zero, List.getElem?_cons_succ, Option.bind_some, Option.toList_some, Option.toList_none, List.cons_append, List.nil_append, if_neg e, sc_gT S, ca, h1, nI_1, h3]
    · rw [drop_getD (l := txN j) (i := i) (by omega)]
      simp only [List.append_assoc, List.cons_append, List.nil_append] at h4 ⊢
      exact h4
theorem c_word {j : Nat} (hj : j < 33) (S : isSc w0 w t D pl ms) (h : t.length + (txN j).length + 1 ≤ 808) : ∃ w2, ex_call X 71 [.ref 15, .ref (1001 + j)] w = some (none, w2) ∧ isSc w0 w2 (t ++ txN j ++ [32]) D pl ms := by
  have hx := txN_ok j hj
  obtain ⟨w2, h1, h2⟩ := c_wordLoop (X := X) hj (kX j).length 0 t w (by omega) S (by omega)
  refine ⟨w2, ?_, h2⟩
  have h1 : ex_go X 71 2 [(0, .ref 15), (1, .ref (1001 + j)), (2, .int 0)] [] w = _ := h1
  show ex_go X 71 0 [(0, .ref 15), (1, .ref (1001 + j))] [] w = _
  simp (disch := first | assumption | decide) only [s71_0, s71_1, h1]
theorem c_hex {d : Nat} (hd : d < 16) : ex_call X 78 [.int (nI d)] w = some (some (.int (nI (hx d))), w) := by
  show ex_go X 78 0 [(0, .int (nI d))] [] w = _
  unfold hx
  by_cases c : d < 10
  · have e : ¬ (10 : Int32) ≤ nI d := nI_ge (b := 10) c (by decide)
    have ad : 48 + nI d = nI (48 + d) := nI_add 48 d
    simp (disch := first | assumption | decide) only [s78_0, s78_1, s78_3, s78_6, s78_8, s78_9, s78_10, s78_13, s78_15, s78_16, s78_17, s78_19, s78_20, if_neg e, if_pos c, ad]
  · have e : (10 : Int32) ≤ nI d := nI_le (a := 10) (by omega) (by omega)
    have ad : 97 + nI d = nI (97 + d) := nI_add 97 d
    have sb : nI (97 + d) - 10 = nI (87 + d) := by
      have := pk_sub (a := 97 + d) (b := 10) (by omega)
      rw [show 97 + d - 10 = 87 + d by omega] at this
      exact this
    simp (disch := first | assumption | decide) only [s78_0, s78_1, s78_3, s78_6, s78_8, s78_9, s78_10, s78_13, s78_15, s78_16, s78_17, s78_19, s78_20, if_pos e, if_neg c, ad, sb]
theorem c_bareLoop (Y : isBy w0 q a us B) {f n : Nat} (hf : f < 2 ^ 20) (hn : n < 2 ^ 20) : ∀ (k i : Nat) (t : List Nat) (w : ex_W), i + k = n → isSc w0 w t D pl ms → t.length + 2 * k + 1 ≤ 808 → ∃ w2, ex_go X 77 12 [(0, .ref 15), (1, .ref q), (2, .int (nI f)), (3, .int (nI n)), (4, .int (nI i))] [] w = some (none, w2) ∧ isSc w0 w2 (t ++ hexL B (f + i) k ++ [32]) D pl ms := by
  intro k
  induction k with
  | zero =>
    intro i t w hi S hl
    have e : nI n ≤ nI i := nI_le (by omega) (by omega)
    obtain ⟨w2, h1, h2⟩ := c_say (X := X) (c := 32) S (by omega)
    refine ⟨w2, ?_, ?_⟩
    · have h1 : ex_call X 17 [.ref 16, .int 32] w = some (none, w2) := h1
      have rT := sc_rT S
      simp (disch := first | assumption | decide) only [s77_0, s77_1, s77_4, s77_6, s77_9, s77_10, s77_12, s77_14, s77_15, s77_18, s77_19, s77_20, s77_22, s77_23, s77_26, s77_28, s77_29, s77_32, s77_34, s77_35, s77_36, s77_39, s77_42, s77_43, s77_46, s77_48, s77_50, s77_51, s77_54, s77_57, s77_60, s77_63, s77_64, s77_67, s77_69, s77_72, List.getElem?_cons_zero, List.getElem?_cons_succ, Option.bind_some, Option.toList_some, Option.toList_none, List.cons_append, List.nil_append, if_pos e, sc_gT S, h1]
    · rw [hexL, List.append_nil]
      exact h2
  | succ k ih =>
    intro i t w hi S hl
    have e : ¬ nI n ≤ nI i := nI_ge (by omega) (by omega)
    have hb := Y.2.2.1 (f + i)
    obtain ⟨w2, h1, h2⟩ := c_say (X := X) (c := hx (B.getD (f + i) 0 / 16)) S (by omega)
    obtain ⟨w3, h3, h4⟩ := c_say (X := X) (c := hx (B.getD (f + i) 0 % 16)) h2 (by rw [List.length_append, List.length_singleton]; omega)
    obtain ⟨w4, h5, h6⟩ := ih (i + 1) _ w3 (by omega) h4 (by rw [List.length_append, List.length_append, List.length_singleton, List.length_singleton]; omega)
    refine ⟨w4, ?_, ?_⟩
    · have rT := sc_rT S
      have rT2 := sc_rT h2
      have rB := sc_rB S Y
      have cb := c_byte (X := X) (i := f + i) S Y (by omega)
      have sh : nI (B.getD (f + i) 0) >>> (4 &&& 31) = nI (B.getD (f + i) 0 / 16) := pk_shrN (by omega) (4 &&& 31) 4 (by decide)
      have an : nI (B.getD (f + i) 0) &&& 15 = nI (B.getD (f + i) 0 % 16) := pk_andN (by omega) 4 (by decide)
      have x1 := c_hex (X := X) (w := w) (d := B.getD (f + i) 0 / 16) (by omega)
      have x2 := c_hex (X := X) (w := w2) (d := B.getD (f + i) 0 % 16) (by omega)
      rw [s77_12]
      simp (disch := first | assumption | decide) only [s77_0, s77_1, s77_4, s77_6, s77_9, s77_10, s77_14, s77_15, s77_18, s77_19, s77_20, s77_22, s77_23, s77_26, s77_28, s77_29, s77_32, s77_34, s77_35, s77_36, s77_39, s77_42, s77_43, s77_46, s77_48, s77_50, s77_51, s77_54, s77_57, s77_60, s77_63, s77_64, s77_67, s77_69, s77_72, List.getElem?_cons_zero, List.getElem?_cons_succ, Option.bind_some, Option.toList_some, Option.toList_none, List.cons_append, List.nil_append, if_neg e, nI_add, cb, sc_gT S, sh, x1, h1, sc_gT h2, an, x2, h3, nI_1, h5]
    · rw [hexL]
      simp only [List.append_assoc, List.cons_append, List.nil_append, Nat.add_assoc] at h6 ⊢
      exact h6
theorem c_bare (S : isSc w0 w t D pl ms) (Y : isBy w0 q a us B) {f n : Nat} (hf : f < 2 ^ 20) (hn : n < 2 ^ 20) (hl : t.length + (bytesT B f n).length + 1 ≤ 808) : ∃ w2, ex_call X 77 [.ref 15, .ref q, .int (nI f), .int (nI n)] w = some (none, w2) ∧ isSc w0 w2 (t ++ bytesT B f n ++ [32]) D pl ms := by
  rw [bytesT_len] at hl
  obtain ⟨w2, h1, h2⟩ := c_say (X := X) (c := 120) S (by omega)
  obtain ⟨w3, h3, h4⟩ := c_bareLoop (X := X) Y hf hn n 0 _ w2 (by omega) h2 (by rw [List.length_append, List.length_singleton]; omega)
  refine ⟨w3, ?_, ?_⟩
  · have rT := sc_rT S
    have h1 : ex_call X 17 [.ref 16, .int 120] w = some (none, w2) := h1
    have h3 : ex_go X 77 12 [(0, .ref 15), (1, .ref q), (2, .int (nI f)), (3, .int (nI n)), (4, .int 0)] [] w2 = _ := h3
    show ex_go X 77 0 [(0, .ref 15), (1, .ref q), (2, .int (nI f)), (3, .int (nI n))] [] w = _
    simp (disch := first | assumption | decide) only [s77_0, s77_1, s77_4, s77_6, s77_9, s77_10, List.getElem?_cons_zero, List.getElem?_cons_succ, Option.bind_some, Option.toList_some, Option.toList_none, List.cons_append, List.nil_append, sc_gT S, h1, h3]
  · unfold bytesT
    simp only [List.append_assoc, List.cons_append, List.nil_append, Nat.add_zero] at h4 ⊢
    exact h4
theorem c_plainLoop (S : isSc w0 w t D pl ms) (Y : isBy w0 q a us B) {f n : Nat} (hf : f < 2 ^ 20) (hn : n < 2 ^ 20) : ∀ (k i : Nat), i + k = n → ex_go X 76 2 [(0, .ref q), (1, .int (nI f)), (2, .int (nI n)), (3, .int (nI i))] [] w = some (some (.int (if plainN B (f + i) k = true ∧ 0 < n then 1 else 0)), w) := by
  have rB := sc_rB S Y
  intro k
  induction k with
  | zero =>
    intro i hi
    have e : nI n ≤ nI i := nI_le (by omega) (by omega)
    rw [show plainN B (f + i) 0 = true from rfl]
    by_cases c : 0 < n
    · have e2 : ¬ nI n ≤ 0 := nI_ge (a := 0) c (by omega)
      simp (disch := first | assumption | decide) only [s76_0, s76_1, s76_2, s76_3, s76_4, s76_7, s76_8, s76_9, s76_10, s76_11, s76_14, s76_16, s76_18, s76_20, s76_23, s76_25, s76_27, s76_30, s76_32, s76_34, s76_37, s76_38, s76_39, s76_42, s76_45, s76_46, s76_49, s76_50, s76_53, s76_54, if_pos e, if_neg e2, c, and_self, if_true]
    · have e2 : nI n ≤ 0 := nI_le (b := 0) (by omega) (by decide)
      simp (disch := first | assumption | decide) only [s76_0, s76_1, s76_2, s76_3, s76_4, s76_7, s76_8, s76_9, s76_10, s76_11, s76_14, s76_16, s76_18, s76_20, s76_23, s76_25, s76_27, s76_30, s76_32, s76_34, s76_37, s76_38, s76_39, s76_42, s76_45, s76_46, s76_49, s76_50, s76_53, s76_54, if_pos e, if_pos e2, c, and_false, if_false]
  | succ k ih =>
    intro i hi
    have e : ¬ nI n ≤ nI i := nI_ge (by omega) (by omega)
    have hb := Y.2.2.1 (f + i)
    have cb := c_byte (X := X) (i := f + i) S Y (by omega)
    have ih := ih (i + 1) (by omega)
    rw [show f + (i + 1) = f + i + 1 by omega] at ih
    by_cases c1 : 33 ≤ B.getD (f + i) 0
    · have e1 : ¬ nI (B.getD (f + i) 0) < 33 := nI_nlt (b := 33) c1 (by omega)
      by_cases c2 : B.getD (f + i) 0 ≤ 126
      · have e2 : ¬ 126 < nI (B.getD (f + i) 0) := nI_nlt (a := 126) c2 (by decide)
        by_cases c3 : B.getD (f + i) 0 = 34
        · have e3 : ¬ ¬ nI (B.getD (f + i) 0) = 34 := by rw [c3]; decide
          have pv : plainN B (f + i) (k + 1) = false := by rw [plainN, if_neg (fun z => z.2.2 c3)]
          rw [pv, s76_2]
          simp (disch := first | assumption | decide) only [s76_0, s76_1, s76_3, s76_4, s76_7, s76_8, s76_9, s76_10, s76_11, s76_14, s76_16, s76_18, s76_20, s76_23, s76_25, s76_27, s76_30, s76_32, s76_34, s76_37, s76_38, s76_39, s76_42, s76_45, s76_46, s76_49, s76_50, s76_53, s76_54, if_neg e, List.getElem?_cons_zero, List.getElem?_cons_succ, Option.bind_some, Option.toList_some, Option.toList_none, List.cons_append, List.nil_append, nI_add, cb, if_neg e1, if_neg e2, if_neg e3, Bool.false_eq_true, false_and, if_false]
        · have e3 : ¬ nI (B.getD (f + i) 0) = 34 := fun z => c3 ((nI_eq (b := 34) (by omega) (by decide)).mp z)
          have pv : plainN B (f + i) (k + 1) = plainN B (f + i + 1) k := by rw [plainN, if_pos ⟨c1, c2, c3⟩]
          rw [pv, ← ih, s76_2]
          simp (disch := first | assumption | decide) only [s76_0, s76_1, s76_3, s76_4, s76_7, s76_8, s76_9, s76_10, s76_11, s76_14, s76_16, s76_18, s76_20, s76_23, s76_25, s76_27, s76_30, s76_32, s76_34, s76_37, s76_38, s76_39, s76_42, s76_45, s76_46, s76_49, s76_50, s76_53, s76_54, if_neg e, List.getElem?_cons_zero, List.getElem?_cons_succ, Option.bind_some, Option.toList_some, Option.toList_none, List.cons_append, List.nil_append, nI_add, cb, if_neg e1, if_neg e2, if_pos e3, nI_1]
      · have e2 : 126 < nI (B.getD (f + i) 0) := nI_lt (a := 126) (by omega) (by omega)
        have pv : plainN B (f + i) (k + 1) = false := by rw [plainN, if_neg (fun z => c2 z.2.1)]
        rw [pv, s76_2]
        simp (disch := first | assumption | decide) only [s76_0, s76_1, s76_3, s76_4, s76_7, s76_8, s76_9, s76_10, s76_11, s76_14, s76_16, s76_18, s76_20, s76_23, s76_25, s76_27, s76_30, s76_32, s76_34, s76_37, s76_38, s76_39, s76_42, s76_45, s76_46, s76_49, s76_50, s76_53, s76_54, if_neg e, List.getElem?_cons_zero, List.getElem?_cons_succ, Option.bind_some, Option.toList_some, Option.toList_none, List.cons_append, List.nil_append, nI_add, cb, if_neg e1, if_pos e2, Bool.false_eq_true, false_and, if_false]
    · have e1 : nI (B.getD (f + i) 0) < 33 := nI_lt (b := 33) (by omega) (by decide)
      have pv : plainN B (f + i) (k + 1) = false := by rw [plainN, if_neg (fun z => c1 z.1)]
      rw [pv, s76_2]
      simp (disch := first | assumption | decide) only [s76_0, s76_1, s76_3, s76_4, s76_7, s76_8, s76_9, s76_10, s76_11, s76_14, s76_16, s76_18, s76_20, s76_23, s76_25, s76_27, s76_30, s76_32, s76_34, s76_37, s76_38, s76_39, s76_42, s76_45, s76_46, s76_49, s76_50, s76_53, s76_54, if_neg e, List.getElem?_cons_zero, List.getElem?_cons_succ, Option.bind_some, Option.toList_some, Option.toList_none, List.cons_append, List.nil_append, nI_add, cb, if_pos e1, Bool.false_eq_true, false_and, if_false]
theorem c_nameLoop (Y : isBy w0 q a us B) {f n : Nat} (hf : f < 2 ^ 20) (hn : n < 2 ^ 20) : ∀ (k i : Nat) (t : List Nat) (w : ex_W), i + k = n → isSc w0 w t D pl ms → t.length + k + 2 ≤ 808 → ∃ w2, ex_go X 75 29 [(0, .ref 15), (1, .ref q), (2, .int (nI f)), (3, .int (nI n)), (4, .int (nI i))] [] w = some (none, w2) ∧ isSc w0 w2 (t ++ rawL B (f + i) k ++ [34, 32]) D pl ms := by
  intro k
  induction k with
  | zero =>
    intro i t w hi S hl
    have e : nI n ≤ nI i := nI_le (by omega) (by omega)
    obtain ⟨w2, h1, h2⟩ := c_say (X := X) (c := 34) S (by omega)
    obtain ⟨w3, h3, h4⟩ := c_say (X := X) (c := 32) h2 (by rw [List.length_append, List.length_singleton]; omega)
    refine ⟨w3, ?_, ?_⟩
    · have h1 : ex_call X 17 [.ref 16, .int 34] w = some (none, w2) := h1
      have h3 : ex_call X 17 [.ref 16, .int 32] w2 = some (none, w3) := h3
      have rT := sc_rT S
      have rT2 := sc_rT h2
      simp (disch := first | assumption | decide) only [s75_0, s75_1, s75_2, s75_3, s75_6, s75_9, s75_10, s75_11, s75_12, s75_13, s75_16, s75_17, s75_18, s75_21, s75_23, s75_26, s75_27, s75_29, s75_31, s75_32, s75_35, s75_36, s75_39, s75_40, s75_41, s75_43, s75_44, s75_47, s75_50, s75_53, s75_56, s75_57, s75_60, s75_62, s75_65, s75_66, s75_69, s75_71, s75_74, List.getElem?_cons_zero, List.getElem?_cons_succ, Option.bind_some, Option.toList_some, Option.toList_none, List.cons_append, List.nil_append, if_pos e, sc_gT S, h1, sc_gT h2, h3]
    · rw [rawL]
      simp only [List.append_assoc, List.cons_append, List.nil_append] at h4 ⊢
      exact h4
  | succ k ih =>
    intro i t w hi S hl
    have e : ¬ nI n ≤ nI i := nI_ge (by omega) (by omega)
    obtain ⟨w2, h1, h2⟩ := c_say (X := X) (c := B.getD (f + i) 0) S (by omega)
    obtain ⟨w4, h5, h6⟩ := ih (i + 1) _ w2 (by omega) h2 (by rw [List.length_append, List.length_singleton]; omega)
    refine ⟨w4, ?_, ?_⟩
    · have rT := sc_rT S
      have rB := sc_rB S Y
      have cb := c_byte (X := X) (i := f + i) S Y (by omega)
      rw [s75_29]
      simp (disch := first | assumption | decide) only [s75_0, s75_1, s75_2, s75_3, s75_6, s75_9, s75_10, s75_11, s75_12, s75_13, s75_16, s75_17, s75_18, s75_21, s75_23, s75_26, s75_27, s75_31, s75_32, s75_35, s75_36, s75_39, s75_40, s75_41, s75_43, s75_44, s75_47, s75_50, s75_53, s75_56, s75_57, s75_60, s75_62, s75_65, s75_66, s75_69, s75_71, s75_74, List.getElem?_cons_zero, List.getElem?_cons_succ, Option.bind_some, Option.toList_some, Option.toList_none, List.cons_append, List.nil_append, if_neg e, nI_add, cb, sc_gT S, h1, nI_1, h5]
    · rw [rawL]
      simp only [List.append_assoc, List.cons_append, List.nil_append, Nat.add_assoc] at h6 ⊢
      exact h6
theorem c_name (S : isSc w0 w t D pl ms) (Y : isBy w0 q a us B) {f n : Nat} (hf : f < 2 ^ 20) (hn : n < 2 ^ 20) (hl : t.length + 2 * n + 3 ≤ 808) : ∃ w2, ex_call X 75 [.ref 15, .ref q, .int (nI f), .int (nI n)] w = some (none, w2) ∧ isSc w0 w2 (t ++ nameT B f n ++ [32]) D pl ms := by
  have pn := c_plainLoop (X := X) S Y hf hn n 0 (by omega)
  have pn : ex_go X 76 2 [(0, .ref q), (1, .int (nI f)), (2, .int (nI n)), (3, .int 0)] [] w = _ := pn
  have pc : ex_call X 76 [.ref q, .int (nI f), .int (nI n)] w = some (some (.int (if plainN B (f + 0) n = true ∧ 0 < n then 1 else 0)), w) := by
    show ex_go X 76 0 [(0, .ref q), (1, .int (nI f)), (2, .int (nI n))] [] w = _
    simp (disch := first | assumption | decide) only [s76_0, s76_1, pn]
  rw [Nat.add_zero] at pc
  have rc := sc_rc S
  unfold nameT
  by_cases c : 0 < n ∧ plainN B f n = true
  · have n1 : ¬ (1 : Int32) = 0 := by decide
    rw [if_pos c]
    rw [if_pos ⟨c.2, c.1⟩] at pc
    obtain ⟨w2, h1, h2⟩ := c_say (X := X) (c := 34) S (by omega)
    obtain ⟨w3, h3, h4⟩ := c_nameLoop (X := X) Y hf hn n 0 _ w2 (by omega) h2 (by rw [List.length_append, List.length_singleton]; omega)
    refine ⟨w3, ?_, ?_⟩
    · have rT := sc_rT S
      have h1 : ex_call X 17 [.ref 16, .int 34] w = some (none, w2) := h1
      have h3 : ex_go X 75 29 [(0, .ref 15), (1, .ref q), (2, .int (nI f)), (3, .int (nI n)), (4, .int 0)] [] w2 = _ := h3
      show ex_go X 75 0 [(0, .ref 15), (1, .ref q), (2, .int (nI f)), (3, .int (nI n))] [] w = _
      simp (disch := first | assumption | decide) only [s75_0, s75_1, s75_2, s75_3, s75_6, s75_9, s75_10, s75_11, s75_12, s75_13, s75_16, s75_17, s75_18, s75_21, s75_23, s75_26, s75_27, List.getElem?_cons_zero, List.getElem?_cons_succ, Option.bind_some, Option.toList_some, Option.toList_none, List.cons_append, List.nil_append, pc, if_pos n1, sc_gT S, h1, h3]
    · simp only [List.append_assoc, List.cons_append, List.nil_append, Nat.add_zero] at h4 ⊢
      exact h4
  · rw [if_neg c]
    rw [if_neg (fun z => c ⟨z.2, z.1⟩)] at pc
    obtain ⟨w2, h1, h2⟩ := c_bare (X := X) S Y hf hn (by rw [bytesT_len]; omega)
    refine ⟨w2, ?_, h2⟩
    show ex_go X 75 0 [(0, .ref 15), (1, .ref q), (2, .int (nI f)), (3, .int (nI n))] [] w = _
    simp (disch := first | assumption | decide) only [s75_0, s75_1, s75_2, s75_3, s75_6, s75_9, s75_10, s75_11, s75_12, s75_13, s75_16, List.getElem?_cons_zero, List.getElem?_cons_succ, Option.bind_some, Option.toList_some, Option.toList_none, List.cons_append, List.nil_append, pc, not_true_eq_false, if_false, h1]
end WORDS
