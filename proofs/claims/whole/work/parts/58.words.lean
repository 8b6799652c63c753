/-! distances, lines, bytes, quoted names -/
abbrev hexC (c : Nat) : Prop := (48 ≤ c ∧ c ≤ 57) ∨ (97 ≤ c ∧ c ≤ 102)
def hexV (c : Nat) : Nat := if c ≤ 57 then c - 48 else c - 87
def allHex (S : List Nat) : Nat → Nat → Bool
  | 0, _ => true
  | k + 1, i => if hexC (S.getD i 0) then allHex S k (i + 1) else false
def noQ (S : List Nat) : Nat → Nat → Bool
  | 0, _ => true
  | k + 1, i => if S.getD i 0 = 34 then false else noQ S k (i + 1)
/-- x and pairs of hex digits -/
def areB (S : List Nat) (p : Nat) : Bool := if S.getD (wF S p) 0 = 120 ∧ (wT S p - wF S p) % 2 = 1 then allHex S (wT S p - wF S p - 1) (wF S p + 1) else false
def isQ (S : List Nat) (p : Nat) : Bool := if 3 ≤ wT S p - wF S p ∧ S.getD (wF S p) 0 = 34 ∧ S.getD (wT S p - 1) 0 = 34 then noQ S (wT S p - wF S p - 2) (wF S p + 1) else false
section WORDS5
variable {X : Option (List Int32)} {w : ex_W} {L : Nat} {S : List Nat} {p : Nat} {v : Int64}
theorem w_hex {c : Nat} (hc : c < 256) : (hexC c → ex_call X 95 [.int (nI c)] w = some (some (.int (nI (hexV c))), w)) ∧ (¬ hexC c → ex_call X 95 [.int (nI c)] w = some (some (.int (-1)), w)) := by
  have h1 : ¬ c < 48 → ¬ nI c < 48 := fun h => nI_nlt (b := 48) (by omega) (by omega)
  have h1' : c < 48 → nI c < 48 := fun h => nI_lt (b := 48) h (by decide)
  have h2 : ¬ 57 < c → ¬ 57 < nI c := fun h => nI_nlt (a := 57) (by omega) (by decide)
  have h2' : 57 < c → 57 < nI c := fun h => nI_lt (a := 57) h (by omega)
  have h3 : ¬ c < 97 → ¬ nI c < 97 := fun h => nI_nlt (b := 97) (by omega) (by omega)
  have h3' : c < 97 → nI c < 97 := fun h => nI_lt (b := 97) h (by decide)
  have h4 : ¬ 102 < c → ¬ 102 < nI c := fun h => nI_nlt (a := 102) (by omega) (by decide)
  have h4' : 102 < c → 102 < nI c := fun h => nI_lt (a := 102) h (by omega)
  constructor
  · intro h
    show ex_go X 95 0 [(0, .int (nI c))] [] w = _
    unfold hexV
    rcases h with h | h
    · have ed : nI c - 48 = nI (c - 48) := pk_sub (b := 48) h.1
      rw [if_pos h.2]
      simp (disch := first | assumption | decide) only [s95_0, s95_1, s95_3, s95_6, s95_7, s95_9, s95_12, s95_13, s95_15, s95_16, s95_17, s95_18, s95_20, s95_23, s95_24, s95_26, s95_29, s95_30, s95_32, s95_33, s95_35, s95_36, s95_39, s95_40, if_neg (h1 (by omega)), if_neg (h2 (by omega)), ed]
    · have ed : nI c - 97 + 10 = nI (c - 87) := by
        have : nI c - 97 = nI (c - 97) := pk_sub (b := 97) h.1
        rw [this, show c - 87 = c - 97 + 10 by omega]
        exact nI_add _ 10
      rw [if_neg (by omega)]
      simp (disch := first | assumption | decide) only [s95_0, s95_1, s95_3, s95_6, s95_7, s95_9, s95_12, s95_13, s95_15, s95_16, s95_17, s95_18, s95_20, s95_23, s95_24, s95_26, s95_29, s95_30, s95_32, s95_33, s95_35, s95_36, s95_39, s95_40, if_neg (h1 (by omega)), if_pos (h2' (by omega)), if_neg (h3 (by omega)), if_neg (h4 (by omega)), ed]
  · intro h
    show ex_go X 95 0 [(0, .int (nI c))] [] w = _
    by_cases c1 : c < 48
    · simp (disch := first | assumption | decide) only [s95_0, s95_1, s95_3, s95_6, s95_7, s95_9, s95_12, s95_13, s95_15, s95_16, s95_17, s95_18, s95_20, s95_23, s95_24, s95_26, s95_29, s95_30, s95_32, s95_33, s95_35, s95_36, s95_39, s95_40, if_pos (h1' c1), if_pos (h3' (by omega))]
    · by_cases c2 : c < 97
      · simp (disch := first | assumption | decide) only [s95_0, s95_1, s95_3, s95_6, s95_7, s95_9, s95_12, s95_13, s95_15, s95_16, s95_17, s95_18, s95_20, s95_23, s95_24, s95_26, s95_29, s95_30, s95_32, s95_33, s95_35, s95_36, s95_39, s95_40, if_neg (h1 c1), if_pos (h2' (by omega)), if_pos (h3' c2)]
      · simp (disch := first | assumption | decide) only [s95_0, s95_1, s95_3, s95_6, s95_7, s95_9, s95_12, s95_13, s95_15, s95_16, s95_17, s95_18, s95_20, s95_23, s95_24, s95_26, s95_29, s95_30, s95_32, s95_33, s95_35, s95_36, s95_39, s95_40, if_neg (h1 c1), if_pos (h2' (by omega)), if_neg (h3 c2), if_pos (h4' (by omega))]
theorem hexV_lt {c : Nat} (h : hexC c) : hexV c < 16 := by unfold hexV; split <;> omega
theorem nI_n1 {n : Nat} (h : n < 2 ^ 20) : ¬ nI n = -1 := fun z => by
  have := nI_pos (n := n) (by omega)
  rw [z] at this
  exact this (by decide)
theorem w_bytesLoop (hL : L < 1000) (W : isWo w L S p v) (T : isLt w L S) (hp : p ≤ S.length) : ∀ (k i : Nat), i + k = wT S p - wF S p → ex_go X 94 23 [(0, .ref 8), (1, .int (nI i))] [] w = some (some (.int (if allHex S k (wF S p + i) = true then 1 else 0)), w) := by
  have r8 := w_rc W
  have wb := w_b hp
  have hl := lt_len T
  have wi := w_width (X := X) W hp
  intro k
  induction k with
  | zero =>
    intro i hi
    have e : nI (wT S p - wF S p) ≤ nI i := nI_le (by omega) (by omega)
    rw [allHex, if_pos rfl]
    simp (disch := first | assumption | decide) only [s94_23, s94_24, s94_25, s94_28, s94_51, s94_52, wi, List.getElem?_cons_zero, List.getElem?_cons_succ, Option.bind_some, Option.toList_some, Option.toList_none, List.cons_append, List.nil_append, not_true_eq_false, if_false, if_true, if_pos e]
  | succ k ih =>
    intro i hi
    have e : ¬ nI (wT S p - wF S p) ≤ nI i := nI_ge (by omega) (by omega)
    have lt := w_letter (X := X) (i := i) hL W T hp (by omega)
    rw [ltr, if_pos (by omega)] at lt
    have hx := w_hex (X := X) (w := w) (c := S.getD (wF S p + i) 0) (lt_b T _)
    rw [allHex, s94_23]
    by_cases c : hexC (S.getD (wF S p + i) 0)
    · have n1 : ¬ nI (hexV (S.getD (wF S p + i) 0)) = -1 := nI_n1 (by have := hexV_lt c; omega)
      rw [if_pos c]
      simp (disch := first | assumption | decide) only [s94_24, s94_25, s94_28, s94_31, s94_32, s94_33, s94_36, s94_39, s94_40, s94_43, s94_44, s94_45, s94_48, wi, List.getElem?_cons_zero, List.getElem?_cons_succ, Option.bind_some, Option.toList_some, Option.toList_none, List.cons_append, List.nil_append, not_true_eq_false, if_false, if_true, if_neg e, lt, hx.1 c, if_pos n1, nI_1, ih (i + 1) (by omega)]
      rw [Nat.add_assoc]
    · rw [if_neg c, if_neg Bool.false_ne_true]
      simp (disch := first | assumption | decide) only [s94_24, s94_25, s94_28, s94_31, s94_32, s94_33, s94_36, s94_39, s94_40, s94_43, s94_44, s94_45, s94_48, wi, List.getElem?_cons_zero, List.getElem?_cons_succ, Option.bind_some, Option.toList_some, Option.toList_none, List.cons_append, List.nil_append, not_true_eq_false, if_false, if_true, if_neg e, lt, hx.2 c]
theorem w_areBytes (hL : L < 1000) (W : isWo w L S p v) (T : isLt w L S) (hp : p ≤ S.length) : ex_call X 94 [.ref 8] w = some (some (.int (if areB S p = true then 1 else 0)), w) := by
  have r8 := w_rc W
  have wb := w_b hp
  have hl := lt_len T
  have hb := lt_b T (wF S p)
  have wi := w_width (X := X) W hp
  have lt : ex_call X 90 [.ref 8, .int 0] w = some (some (.int (nI (ltr S p 0))), w) := w_letter (X := X) (i := 0) hL W T hp (by omega)
  have el : ltr S p 0 = S.getD (wF S p) 0 := by
    unfold ltr
    split
    · rfl
    · exact (getD_end hp (by omega)).symm
  rw [el] at lt
  have rm : nI (wT S p - wF S p) - nI (wT S p - wF S p) / 2 * 2 = nI ((wT S p - wF S p) % 2) := pk_rem (d := 2) (by omega) (by decide) (by decide)
  have z2 : ¬ (2 : Int32) = 0 := by decide
  show ex_go X 94 0 [(0, .ref 8)] [] w = _
  by_cases c1 : S.getD (wF S p) 0 = 120
  · have e1 : ¬ ¬ nI (S.getD (wF S p) 0) = 120 := by rw [c1]; decide
    by_cases c2 : (wT S p - wF S p) % 2 = 1
    · have e2 : ¬ nI ((wT S p - wF S p) % 2) = 0 := by rw [c2]; decide
      rw [show areB S p = allHex S (wT S p - wF S p - 1) (wF S p + 1) from if_pos ⟨c1, c2⟩]
      have lp := w_bytesLoop (X := X) hL W T hp (wT S p - wF S p - 1) 1 (by omega)
      have lp : ex_go X 94 23 [(0, .ref 8), (1, .int 1)] [] w = _ := lp
      simp (disch := first | assumption | decide) only [s94_0, s94_1, s94_2, s94_5, s94_7, s94_10, s94_11, s94_14, s94_15, s94_16, s94_19, s94_20, s94_21, s94_22, lt, List.getElem?_cons_zero, List.getElem?_cons_succ, Option.bind_some, Option.toList_some, Option.toList_none, List.cons_append, List.nil_append, not_true_eq_false, if_false, if_true, if_neg e1, wi, rm, if_pos e2, lp]
    · have e2 : ¬ ¬ nI ((wT S p - wF S p) % 2) = 0 := by rw [show (wT S p - wF S p) % 2 = 0 by omega]; decide
      rw [show areB S p = false from if_neg (fun z => c2 z.2), if_neg Bool.false_ne_true]
      simp (disch := first | assumption | decide) only [s94_0, s94_1, s94_2, s94_5, s94_7, s94_10, s94_11, s94_14, s94_15, s94_16, s94_19, s94_20, s94_21, s94_22, lt, List.getElem?_cons_zero, List.getElem?_cons_succ, Option.bind_some, Option.toList_some, Option.toList_none, List.cons_append, List.nil_append, not_true_eq_false, if_false, if_true, if_neg e1, wi, rm, if_neg e2]
  · have e1 : ¬ nI (S.getD (wF S p) 0) = 120 := fun z => c1 ((nI_eq (b := 120) (by omega) (by decide)).mp z)
    rw [show areB S p = false from if_neg (fun z => c1 z.1), if_neg Bool.false_ne_true]
    simp (disch := first | assumption | decide) only [s94_0, s94_1, s94_2, s94_5, s94_7, s94_10, s94_11, s94_14, s94_15, s94_16, s94_19, s94_20, s94_21, s94_22, lt, List.getElem?_cons_zero, List.getElem?_cons_succ, Option.bind_some, Option.toList_some, Option.toList_none, List.cons_append, List.nil_append, not_true_eq_false, if_false, if_true, if_pos e1]
theorem allHex_at : ∀ (k i j : Nat), allHex S k i = true → i ≤ j → j < i + k → hexC (S.getD j 0) := by
  intro k
  induction k with
  | zero => intro i j _ h1 h2; omega
  | succ k ih =>
    intro i j h h1 h2
    rw [allHex] at h
    by_cases c : hexC (S.getD i 0)
    · rw [if_pos c] at h
      by_cases e : j = i
      · rw [e]; exact c
      · exact ih (i + 1) j h (by omega) (by omega)
    · rw [if_neg c] at h
      cases h
def byO (S : List Nat) (a : Nat) : Nat := hexV (S.getD a 0) * 16 + hexV (S.getD (a + 1) 0)
theorem w_byteOf {i : Nat} (hL : L < 1000) (W : isWo w L S p v) (T : isLt w L S) (hp : p ≤ S.length) (hB : areB S p = true) (hi : 2 * i + 2 < wT S p - wF S p) : ex_call X 96 [.ref 8, .int (nI i)] w = some (some (.int (nI (byO S (wF S p + 1 + 2 * i)))), w) ∧ byO S (wF S p + 1 + 2 * i) < 256 := by
  have r8 := w_rc W
  have wb := w_b hp
  have hl := lt_len T
  unfold areB at hB
  split at hB
  next c0 =>
    have h1 := allHex_at _ _ (wF S p + 1 + 2 * i) hB (by omega) (by omega)
    have h2 := allHex_at _ _ (wF S p + 1 + 2 * i + 1) hB (by omega) (by omega)
    have l1 := w_letter (X := X) (i := 1 + 2 * i) hL W T hp (by omega)
    have l2 := w_letter (X := X) (i := 2 + 2 * i) hL W T hp (by omega)
    rw [ltr, if_pos (by omega), ← Nat.add_assoc] at l1
    rw [ltr, if_pos (by omega), show wF S p + (2 + 2 * i) = wF S p + 1 + 2 * i + 1 by omega] at l2
    have x1 := (w_hex (X := X) (w := w) (c := S.getD (wF S p + 1 + 2 * i) 0) (lt_b T _)).1 h1
    have x2 := (w_hex (X := X) (w := w) (c := S.getD (wF S p + 1 + 2 * i + 1) 0) (lt_b T _)).1 h2
    have mu : (2 : Int32) * nI i = nI (2 * i) := pk_mul 2 i
    have a1 : (1 : Int32) + nI (2 * i) = nI (1 + 2 * i) := nI_add 1 _
    have a2 : (2 : Int32) + nI (2 * i) = nI (2 + 2 * i) := nI_add 2 _
    have m16 : nI (hexV (S.getD (wF S p + 1 + 2 * i) 0)) * 16 = nI (hexV (S.getD (wF S p + 1 + 2 * i) 0) * 16) := pk_mul _ 16
    have v1 := hexV_lt h1
    have v2 := hexV_lt h2
    refine ⟨?_, by unfold byO; omega⟩
    show ex_go X 96 0 [(0, .ref 8), (1, .int (nI i))] [] w = _
    unfold byO
    simp (disch := first | assumption | decide) only [s96_0, s96_1, s96_2, s96_3, s96_4, s96_5, s96_6, s96_9, s96_12, s96_14, s96_15, s96_16, s96_17, s96_18, s96_19, s96_20, s96_21, s96_24, s96_27, s96_28, mu, a1, l1, List.getElem?_cons_zero, List.getElem?_cons_succ, Option.bind_some, Option.toList_some, Option.toList_none, List.cons_append, List.nil_append, not_true_eq_false, if_false, if_true, x1, m16, a2, l2, x2, nI_add]
  next => cases hB
theorem w_quoLoop (hL : L < 1000) (W : isWo w L S p v) (T : isLt w L S) (hp : p ≤ S.length) {la : Nat} (hla : la + 1 = wT S p - wF S p) : ∀ (k i : Nat), i + k = la → ex_go X 99 36 [(0, .ref 8), (1, .int (nI la)), (2, .int (nI i))] [] w = some (some (.int (if noQ S k (wF S p + i) = true then 1 else 0)), w) := by
  have r8 := w_rc W
  have wb := w_b hp
  have hl := lt_len T
  intro k
  induction k with
  | zero =>
    intro i hi
    have e : nI la ≤ nI i := nI_le (by omega) (by omega)
    rw [noQ, if_pos rfl]
    simp (disch := first | assumption | decide) only [s99_36, s99_37, s99_38, s99_59, s99_60, if_pos e]
  | succ k ih =>
    intro i hi
    have e : ¬ nI la ≤ nI i := nI_ge (by omega) (by omega)
    have lt := w_letter (X := X) (i := i) hL W T hp (by omega)
    rw [ltr, if_pos (by omega)] at lt
    have hb := lt_b T (wF S p + i)
    rw [noQ, s99_36]
    by_cases c : S.getD (wF S p + i) 0 = 34
    · have e2 : ¬ ¬ nI (S.getD (wF S p + i) 0) = 34 := by rw [c]; decide
      rw [if_pos c, if_neg Bool.false_ne_true]
      simp (disch := first | assumption | decide) only [s99_37, s99_38, s99_41, s99_42, s99_43, s99_46, s99_48, s99_51, s99_52, s99_53, s99_56, if_neg e, lt, List.getElem?_cons_zero, List.getElem?_cons_succ, Option.bind_some, Option.toList_some, Option.toList_none, List.cons_append, List.nil_append, not_true_eq_false, if_false, if_true, if_neg e2]
    · have e2 : ¬ nI (S.getD (wF S p + i) 0) = 34 := fun z => c ((nI_eq (b := 34) (by omega) (by decide)).mp z)
      rw [if_neg c]
      simp (disch := first | assumption | decide) only [s99_37, s99_38, s99_41, s99_42, s99_43, s99_46, s99_48, s99_51, s99_52, s99_53, s99_56, if_neg e, lt, List.getElem?_cons_zero, List.getElem?_cons_succ, Option.bind_some, Option.toList_some, Option.toList_none, List.cons_append, List.nil_append, not_true_eq_false, if_false, if_true, if_pos e2, nI_1, ih (i + 1) (by omega)]
      rw [Nat.add_assoc]
theorem w_isQuoted (hL : L < 1000) (W : isWo w L S p v) (T : isLt w L S) (hp : p ≤ S.length) : ex_call X 99 [.ref 8] w = some (some (.int (if isQ S p = true then 1 else 0)), w) := by
  have r8 := w_rc W
  have wb := w_b hp
  have hl := lt_len T
  have wi := w_width (X := X) W hp
  show ex_go X 99 0 [(0, .ref 8)] [] w = _
  by_cases c0 : 3 ≤ wT S p - wF S p
  · obtain ⟨la, hla⟩ : ∃ la, wT S p - wF S p = la + 1 := ⟨wT S p - wF S p - 1, by omega⟩
    rw [hla] at wi
    have e0 : ¬ nI la < 2 := nI_nlt (b := 2) (by omega) (by omega)
    have lt : ex_call X 90 [.ref 8, .int 0] w = some (some (.int (nI (ltr S p 0))), w) := w_letter (X := X) (i := 0) hL W T hp (by omega)
    have lt2 := w_letter (X := X) (i := la) hL W T hp (by omega)
    rw [ltr, if_pos (by omega)] at lt lt2
    rw [Nat.add_zero] at lt
    rw [show wF S p + la = wT S p - 1 by omega] at lt2
    have hb := lt_b T (wF S p)
    have hb2 := lt_b T (wT S p - 1)
    by_cases c1 : S.getD (wF S p) 0 = 34
    · have e1 : ¬ ¬ nI (S.getD (wF S p) 0) = 34 := by rw [c1]; decide
      by_cases c2 : S.getD (wT S p - 1) 0 = 34
      · have e2 : nI (S.getD (wT S p - 1) 0) = 34 := by rw [c2]; rfl
        rw [show isQ S p = noQ S (wT S p - wF S p - 2) (wF S p + 1) from if_pos ⟨c0, c1, c2⟩]
        have lp := w_quoLoop (X := X) hL W T hp hla.symm (la - 1) 1 (by omega)
        have lp : ex_go X 99 36 [(0, .ref 8), (1, .int (nI la)), (2, .int 1)] [] w = _ := lp
        rw [show wT S p - wF S p - 2 = la - 1 by omega]
        simp (disch := first | assumption | decide) only [s99_0, s99_1, s99_4, s99_5, s99_6, s99_7, s99_8, s99_9, s99_12, s99_13, s99_14, s99_17, s99_19, s99_22, s99_23, s99_24, s99_27, s99_29, s99_32, s99_33, s99_34, s99_35, wi, List.getElem?_cons_zero, List.getElem?_cons_succ, Option.bind_some, Option.toList_some, Option.toList_none, List.cons_append, List.nil_append, not_true_eq_false, if_false, if_true, nI_pred, if_neg e0, lt, if_neg e1, lt2, if_pos e2, lp]
      · have e2 : ¬ nI (S.getD (wT S p - 1) 0) = 34 := fun z => c2 ((nI_eq (b := 34) (by omega) (by decide)).mp z)
        rw [show isQ S p = false from if_neg (fun z => c2 z.2.2), if_neg Bool.false_ne_true]
        simp (disch := first | assumption | decide) only [s99_0, s99_1, s99_4, s99_5, s99_6, s99_7, s99_8, s99_9, s99_12, s99_13, s99_14, s99_17, s99_19, s99_22, s99_23, s99_24, s99_27, s99_29, s99_32, s99_33, s99_34, s99_35, wi, List.getElem?_cons_zero, List.getElem?_cons_succ, Option.bind_some, Option.toList_some, Option.toList_none, List.cons_append, List.nil_append, not_true_eq_false, if_false, if_true, nI_pred, if_neg e0, lt, if_neg e1, lt2, if_neg e2]
    · have e1 : ¬ nI (S.getD (wF S p) 0) = 34 := fun z => c1 ((nI_eq (b := 34) (by omega) (by decide)).mp z)
      rw [show isQ S p = false from if_neg (fun z => c1 z.2.1), if_neg Bool.false_ne_true]
      simp (disch := first | assumption | decide) only [s99_0, s99_1, s99_4, s99_5, s99_6, s99_7, s99_8, s99_9, s99_12, s99_13, s99_14, s99_17, s99_19, s99_22, s99_23, s99_24, s99_27, s99_29, s99_32, s99_33, s99_34, s99_35, wi, List.getElem?_cons_zero, List.getElem?_cons_succ, Option.bind_some, Option.toList_some, Option.toList_none, List.cons_append, List.nil_append, not_true_eq_false, if_false, if_true, nI_pred, if_neg e0, lt, if_pos e1]
  · have e0 : nI (wT S p - wF S p) - 1 < 2 := by
      rw [Int32.lt_iff_toInt_lt, Int32.toInt_sub, nI_toInt (by omega), show (1 : Int32).toInt = 1 from rfl, show (2 : Int32).toInt = 2 from rfl, Int.bmod_eq_of_le (by omega) (by omega)]
      omega
    rw [show isQ S p = false from if_neg (fun z => c0 z.1), if_neg Bool.false_ne_true]
    simp (disch := first | assumption | decide) only [s99_0, s99_1, s99_4, s99_5, s99_6, s99_7, s99_8, s99_9, s99_12, s99_13, s99_14, s99_17, s99_19, s99_22, s99_23, s99_24, s99_27, s99_29, s99_32, s99_33, s99_34, s99_35, wi, List.getElem?_cons_zero, List.getElem?_cons_succ, Option.bind_some, Option.toList_some, Option.toList_none, List.cons_append, List.nil_append, not_true_eq_false, if_false, if_true, if_pos e0]
theorem w_isLabel (hL : L < 1000) (W : isWo w L S p v) (T : isLt w L S) : ∃ w2 v2 r, ex_call X 97 [.ref 8] w = some (some (.int r), w2) ∧ fr8 w w2 ∧ isWo w2 L S p v2 ∧ ((∃ N, r = 1 ∧ rdL S p = some N ∧ v2 = lbV N) ∨ (r = 0 ∧ rdL S p = none)) := by
  have hb := lt_b T (wF S p)
  obtain ⟨hn, bl, ls, h8, hN⟩ := W
  have n1 : ¬ (1 : Int32) = 0 := by decide
  show ∃ w2 v2 r, ex_go X 97 0 [(0, .ref 8)] [] w = _ ∧ _
  -- the value
  have val : ∃ u, ex_go X 97 0 [(0, .ref 8)] [] w = ex_go X 97 33 [(0, .ref 8)] [] (w.set 8 (wo L (nI S.length) (nI (wF S p)) (nI (wT S p)) (nI (sgS S (wF S p))) hn bl ls u)) ∧ (∀ N, nOK N bl ls → u = lbV N) := by
    by_cases c : bl = 0
    · subst c
      by_cases g : 0 ≤ lg_cmp ls (-2147483647)
      · refine ⟨-ls, ?_, ?_⟩
        · simp (disch := first | assumption | decide) only [s97_0, s97_1, s97_2, s97_5, s97_8, s97_9, s97_12, s97_15, s97_16, s97_19, s97_22, s97_25, s97_26, s97_29, s97_30, ex_gf_i h8, List.getElem?_cons_zero, List.getElem?_cons_succ, Option.bind_some, Option.toList_some, Option.toList_none, List.cons_append, List.nil_append, not_true_eq_false, if_false, if_true, if_pos g, wp8 h8]
        · intro N hN2
          by_cases b : N ≤ 2 ^ 63
          · have h2 := (hN2.1 b).2
            subst h2
            have e : (-2147483647 : Int64).toInt = -2147483647 := rfl
            rw [lg_cmp_ge, Int64.le_iff_toInt_le, ng_toInt b, e] at g
            unfold lbV
            rw [if_pos (by omega)]
          · exact absurd (hN2.2 b) (by decide)
      · refine ⟨2147483647, ?_, ?_⟩
        · simp (disch := first | assumption | decide) only [s97_0, s97_1, s97_2, s97_5, s97_8, s97_9, s97_12, s97_15, s97_16, s97_19, s97_22, s97_25, s97_26, s97_29, s97_30, ex_gf_i h8, List.getElem?_cons_zero, List.getElem?_cons_succ, Option.bind_some, Option.toList_some, Option.toList_none, List.cons_append, List.nil_append, not_true_eq_false, if_false, if_true, if_neg g, wp8 h8]
        · intro N hN2
          by_cases b : N ≤ 2 ^ 63
          · have h2 := (hN2.1 b).2
            subst h2
            have e : (-2147483647 : Int64).toInt = -2147483647 := rfl
            rw [lg_cmp_ge, Int64.le_iff_toInt_le, ng_toInt b, e] at g
            unfold lbV
            rw [if_neg (by omega)]
          · exact absurd (hN2.2 b) (by decide)
    · refine ⟨2147483647, ?_, ?_⟩
      · simp (disch := first | assumption | decide) only [s97_0, s97_1, s97_2, s97_5, s97_8, s97_9, s97_12, s97_15, s97_16, s97_19, s97_22, s97_25, s97_26, s97_29, s97_30, ex_gf_i h8, List.getElem?_cons_zero, List.getElem?_cons_succ, Option.bind_some, Option.toList_some, Option.toList_none, List.cons_append, List.nil_append, not_true_eq_false, if_false, if_true, if_pos c, wp8 h8]
      · intro N hN2
        by_cases b : N ≤ 2 ^ 63
        · exact absurd (hN2.1 b).1 c
        · unfold lbV
          rw [if_neg (by omega)]
  obtain ⟨u, a1, a2⟩ := val
  have W2 : isWo (w.set 8 (wo L (nI S.length) (nI (wF S p)) (nI (wT S p)) (nI (sgS S (wF S p))) hn bl ls u)) L S p u := w_setV h8 hN
  have g8 : (w.set 8 (wo L (nI S.length) (nI (wF S p)) (nI (wT S p)) (nI (sgS S (wF S p))) hn bl ls u))[8]? = some (wo L (nI S.length) (nI (wF S p)) (nI (wT S p)) (nI (sgS S (wF S p))) hn bl ls u) := ex_set_s h8
  rw [a1]
  unfold rdL
  by_cases s : S.getD (wF S p) 0 = 64
  · have es : sgS S (wF S p) = 64 := by unfold sgS; rw [if_pos (Or.inr (Or.inr s)), s]
    have ea : nuA S (wF S p) = wF S p + 1 := by unfold nuA; rw [es, if_neg (by decide)]
    have e64 : ¬ ¬ nI (sgS S (wF S p)) = 64 := by rw [es]; decide
    rw [ea] at hN
    rw [if_pos s]
    cases hw : numW S (wF S p + 1) (wT S p) with
    | none =>
      have h0 := hN.1 hw
      subst h0
      refine ⟨_, u, 0, ?_, fr8_set, W2, Or.inr ⟨rfl, rfl⟩⟩
      simp (disch := first | assumption | decide) only [s97_33, s97_34, s97_37, s97_39, s97_42, s97_43, s97_46, s97_49, s97_50, s97_53, s97_54, ex_gf_i g8, List.getElem?_cons_zero, List.getElem?_cons_succ, Option.bind_some, Option.toList_some, Option.toList_none, List.cons_append, List.nil_append, not_true_eq_false, if_false, if_true, if_neg e64]
    | some N =>
      obtain ⟨h0, h1⟩ := hN.2 N hw
      subst h0
      refine ⟨_, u, 1, ?_, fr8_set, W2, Or.inl ⟨N, rfl, rfl, a2 N h1⟩⟩
      simp (disch := first | assumption | decide) only [s97_33, s97_34, s97_37, s97_39, s97_42, s97_43, s97_46, s97_49, s97_50, s97_53, s97_54, ex_gf_i g8, List.getElem?_cons_zero, List.getElem?_cons_succ, Option.bind_some, Option.toList_some, Option.toList_none, List.cons_append, List.nil_append, not_true_eq_false, if_false, if_true, if_neg e64, if_neg n1]
  · have sgb : sgS S (wF S p) < 256 := by unfold sgS; split <;> omega
    have e64 : ¬ nI (sgS S (wF S p)) = 64 := fun z => by
      have := (nI_eq (b := 64) (by omega) (by decide)).mp z
      unfold sgS at this
      split at this
      · exact s this
      · omega
    rw [if_neg s]
    refine ⟨_, u, 0, ?_, fr8_set, W2, Or.inr ⟨rfl, rfl⟩⟩
    simp (disch := first | assumption | decide) only [s97_33, s97_34, s97_37, s97_39, s97_42, s97_43, s97_46, s97_49, s97_50, s97_53, s97_54, ex_gf_i g8, List.getElem?_cons_zero, List.getElem?_cons_succ, Option.bind_some, Option.toList_some, Option.toList_none, List.cons_append, List.nil_append, not_true_eq_false, if_false, if_true, if_pos e64]
theorem lt_fr {w2 : ex_W} (T : isLt w L S) (h : fr8 w w2) (hne : L ≠ 8) : isLt w2 L S := lt_o T (h.2 L hne)
theorem w_isDistance (hL : L < 1000) (W : isWo w L S p v) (T : isLt w L S) : ∃ w2 v2 r, ex_call X 98 [.ref 8] w = some (some (.int r), w2) ∧ fr8 w w2 ∧ isWo w2 L S p v2 ∧ ((r = 1 ∧ rdD S p = some v2) ∨ (r = 0 ∧ rdD S p = none)) := by
  have hb := lt_b T (wF S p)
  have W0 := W
  have r8 := w_rc W
  obtain ⟨hn, bl, ls, h8, hN⟩ := W
  have n1 : ¬ (1 : Int32) = 0 := by decide
  have sgb : sgS S (wF S p) < 256 := by unfold sgS; split <;> omega
  have m0 : (-32768 : Int64).toInt = -32768 := rfl
  have m1 : (0 : Int64).toInt = 0 := rfl
  show ∃ w2 v2 r, ex_go X 98 0 [(0, .ref 8)] [] w = _ ∧ _
  by_cases s : S.getD (wF S p) 0 = 45
  · have es : sgS S (wF S p) = 45 := by unfold sgS; rw [if_pos (Or.inr (Or.inl s)), s]
    have e45 : ¬ ¬ nI (sgS S (wF S p)) = 45 := by rw [es]; decide
    obtain ⟨w2, v2, r, a1, a2, a3, a4⟩ := w_isNumber (X := X) (m := -32768) (M := 0) hL W0 T (by decide) (by decide)
    have hr : r = 0 ∨ r = 1 := by
      rcases a4 with h | h
      · exact Or.inr h.1
      · exact Or.inl h.1
    refine ⟨w2, v2, r, ?_, a2, a3, ?_⟩
    · simp (disch := first | assumption | decide) only [s98_0, s98_1, s98_4, s98_6, s98_9, s98_10, s98_13, s98_14, s98_17, s98_18, s98_19, s98_20, s98_23, s98_24, s98_27, s98_28, s98_31, s98_33, s98_36, s98_37, s98_40, s98_43, s98_44, s98_47, s98_50, s98_51, s98_54, s98_57, s98_58, s98_61, s98_62, s98_65, s98_66, ex_gf_i h8, List.getElem?_cons_zero, List.getElem?_cons_succ, Option.bind_some, Option.toList_some, Option.toList_none, List.cons_append, List.nil_append, not_true_eq_false, if_false, if_true, if_neg e45, a1]
    · unfold rdN at a4
      unfold rdD
      rw [if_pos s] at a4 ⊢
      cases hw : numW S (wF S p + 1) (wT S p) with
      | none =>
        rw [hw] at a4
        rcases a4 with a4 | a4
        · cases a4.2.1
        · exact Or.inr ⟨a4.1, rfl⟩
      | some N =>
        by_cases z : N = 0 ∨ 2 ^ 63 < N
        · simp only [hw, if_pos z] at a4
          rcases a4 with a4 | a4
          · cases a4.2.1
          · exact Or.inr ⟨a4.1, if_pos (by omega)⟩
        · simp only [hw, if_neg z] at a4
          have tn := ng_toInt (N := N) (by omega)
          rcases a4 with ⟨b1, b2, b3, b4⟩ | ⟨b1, b2⟩
          · cases b2
            rw [Int64.le_iff_toInt_le, tn, m0] at b3
            exact Or.inl ⟨b1, if_neg (by omega)⟩
          · refine Or.inr ⟨b1, if_pos ?_⟩
            have := b2 _ rfl
            rw [Int64.le_iff_toInt_le, Int64.le_iff_toInt_le, tn, m0, m1] at this
            omega
  · have e45 : ¬ nI (sgS S (wF S p)) = 45 := fun z => by
      have := (nI_eq (b := 45) (by omega) (by decide)).mp z
      unfold sgS at this
      split at this
      · exact s this
      · omega
    have W2 : isWo (w.set 8 (wo L (nI S.length) (nI (wF S p)) (nI (wT S p)) (nI (sgS S (wF S p))) hn bl ls (-ls))) L S p (-ls) := w_setV h8 hN
    have g8 : (w.set 8 (wo L (nI S.length) (nI (wF S p)) (nI (wT S p)) (nI (sgS S (wF S p))) hn bl ls (-ls)))[8]? = some (wo L (nI S.length) (nI (wF S p)) (nI (wT S p)) (nI (sgS S (wF S p))) hn bl ls (-ls)) := ex_set_s h8
    unfold rdD
    rw [if_neg s]
    by_cases s2 : S.getD (wF S p) 0 = 43
    · have es : sgS S (wF S p) = 43 := by unfold sgS; rw [if_pos (Or.inl s2), s2]
      have ea : nuA S (wF S p) = wF S p + 1 := by unfold nuA; rw [es, if_neg (by decide)]
      have e43 : ¬ ¬ nI (sgS S (wF S p)) = 43 := by rw [es]; decide
      rw [ea] at hN
      rw [if_pos s2]
      cases hw : numW S (wF S p + 1) (wT S p) with
      | none =>
        have h0 := hN.1 hw
        subst h0
        refine ⟨_, -ls, 0, ?_, fr8_set, W2, Or.inr ⟨rfl, rfl⟩⟩
        simp (disch := first | assumption | decide) only [s98_0, s98_1, s98_4, s98_6, s98_9, s98_10, s98_13, s98_14, s98_17, s98_18, s98_19, s98_20, s98_23, s98_24, s98_27, s98_28, s98_31, s98_33, s98_36, s98_37, s98_40, s98_43, s98_44, s98_47, s98_50, s98_51, s98_54, s98_57, s98_58, s98_61, s98_62, s98_65, s98_66, ex_gf_i h8, List.getElem?_cons_zero, List.getElem?_cons_succ, Option.bind_some, Option.toList_some, Option.toList_none, List.cons_append, List.nil_append, not_true_eq_false, if_false, if_true, if_pos e45, wp8 h8, ex_gf_i g8, if_neg e43]
      | some N =>
        obtain ⟨h0, h1⟩ := hN.2 N hw
        subst h0
        by_cases b : N ≤ 2 ^ 63
        · obtain ⟨b1, b2⟩ := h1.1 b
          subst b1
          subst b2
          have e : (-32767 : Int64).toInt = -32767 := rfl
          by_cases g : -32767 ≤ ng N
          · have g1 : ¬ lg_cmp (ng N) (-32767) < 0 := by
              have := (lg_cmp_ge (ng N) (-32767)).mpr g
              exact fun y => by
                rw [Int32.le_iff_toInt_le] at this
                rw [Int32.lt_iff_toInt_lt] at y
                omega
            rw [Int64.le_iff_toInt_le, ng_toInt b, e] at g
            refine ⟨_, -(ng N), 1, ?_, fr8_set, W2, Or.inl ⟨rfl, if_pos (by omega)⟩⟩
            simp (disch := first | assumption | decide) only [s98_0, s98_1, s98_4, s98_6, s98_9, s98_10, s98_13, s98_14, s98_17, s98_18, s98_19, s98_20, s98_23, s98_24, s98_27, s98_28, s98_31, s98_33, s98_36, s98_37, s98_40, s98_43, s98_44, s98_47, s98_50, s98_51, s98_54, s98_57, s98_58, s98_61, s98_62, s98_65, s98_66, ex_gf_i h8, List.getElem?_cons_zero, List.getElem?_cons_succ, Option.bind_some, Option.toList_some, Option.toList_none, List.cons_append, List.nil_append, not_true_eq_false, if_false, if_true, if_pos e45, wp8 h8, ex_gf_i g8, if_neg e43, if_neg n1, if_neg g1]
          · have g1 : lg_cmp (ng N) (-32767) < 0 := by
              have h : ¬ 0 ≤ lg_cmp (ng N) (-32767) := fun y => g ((lg_cmp_ge (ng N) (-32767)).mp y)
              rw [Int32.le_iff_toInt_le] at h
              rw [Int32.lt_iff_toInt_lt]
              omega
            rw [Int64.le_iff_toInt_le, ng_toInt b, e] at g
            refine ⟨_, -(ng N), 0, ?_, fr8_set, W2, Or.inr ⟨rfl, if_neg (by omega)⟩⟩
            simp (disch := first | assumption | decide) only [s98_0, s98_1, s98_4, s98_6, s98_9, s98_10, s98_13, s98_14, s98_17, s98_18, s98_19, s98_20, s98_23, s98_24, s98_27, s98_28, s98_31, s98_33, s98_36, s98_37, s98_40, s98_43, s98_44, s98_47, s98_50, s98_51, s98_54, s98_57, s98_58, s98_61, s98_62, s98_65, s98_66, ex_gf_i h8, List.getElem?_cons_zero, List.getElem?_cons_succ, Option.bind_some, Option.toList_some, Option.toList_none, List.cons_append, List.nil_append, not_true_eq_false, if_false, if_true, if_pos e45, wp8 h8, ex_gf_i g8, if_neg e43, if_neg n1, if_pos g1]
        · have b1 := h1.2 b
          subst b1
          refine ⟨_, -ls, 0, ?_, fr8_set, W2, Or.inr ⟨rfl, if_neg (by omega)⟩⟩
          simp (disch := first | assumption | decide) only [s98_0, s98_1, s98_4, s98_6, s98_9, s98_10, s98_13, s98_14, s98_17, s98_18, s98_19, s98_20, s98_23, s98_24, s98_27, s98_28, s98_31, s98_33, s98_36, s98_37, s98_40, s98_43, s98_44, s98_47, s98_50, s98_51, s98_54, s98_57, s98_58, s98_61, s98_62, s98_65, s98_66, ex_gf_i h8, List.getElem?_cons_zero, List.getElem?_cons_succ, Option.bind_some, Option.toList_some, Option.toList_none, List.cons_append, List.nil_append, not_true_eq_false, if_false, if_true, if_pos e45, wp8 h8, ex_gf_i g8, if_neg e43, if_neg n1, if_pos n1]
    · have e43 : ¬ nI (sgS S (wF S p)) = 43 := fun z => by
        have := (nI_eq (b := 43) (by omega) (by decide)).mp z
        unfold sgS at this
        split at this
        · exact s2 this
        · omega
      rw [if_neg s2]
      refine ⟨_, -ls, 0, ?_, fr8_set, W2, Or.inr ⟨rfl, rfl⟩⟩
      simp (disch := first | assumption | decide) only [s98_0, s98_1, s98_4, s98_6, s98_9, s98_10, s98_13, s98_14, s98_17, s98_18, s98_19, s98_20, s98_23, s98_24, s98_27, s98_28, s98_31, s98_33, s98_36, s98_37, s98_40, s98_43, s98_44, s98_47, s98_50, s98_51, s98_54, s98_57, s98_58, s98_61, s98_62, s98_65, s98_66, ex_gf_i h8, List.getElem?_cons_zero, List.getElem?_cons_succ, Option.bind_some, Option.toList_some, Option.toList_none, List.cons_append, List.nil_append, not_true_eq_false, if_false, if_true, if_pos e45, wp8 h8, ex_gf_i g8, if_pos e43]
end WORDS5
