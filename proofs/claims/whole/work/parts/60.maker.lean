/-! bytes, names, entries -/
def hexBs (S : List Nat) : Nat → Nat → List Nat
  | 0, _ => []
  | k + 1, a => byO S a :: hexBs S k (a + 2)
theorem hexBs_len {S : List Nat} : ∀ k a, (hexBs S k a).length = k
  | 0, _ => rfl
  | k + 1, a => by rw [hexBs, List.length_cons, hexBs_len k (a + 2)]
/-- how many bytes x.. are -/
def hexK (S : List Nat) (p : Nat) : Nat := (wT S p - wF S p) / 2
def rHex (S : List Nat) (cn p b : Nat) : Option (List Nat) := if areB S p = true ∧ b + (cn + hexK S p) ≤ 120 then some ((if cn = 0 then [] else [hexK S p]) ++ hexBs S (hexK S p) (wF S p + 1)) else none
def quoK (S : List Nat) (p : Nat) : Nat := wT S p - wF S p - 2
def rQuo (S : List Nat) (p b : Nat) : Option (List Nat) := if isQ S p = true ∧ b + (1 + quoK S p) ≤ 120 then some (quoK S p :: rawL S (wF S p + 1) (quoK S p)) else none
def rNam (S : List Nat) (p b : Nat) : Option (List Nat) := if areB S p = true then rHex S 1 p b else rQuo S p b
theorem lowBy1 : ∀ n, n < 256 → lowBy (nI n).toInt64 1 = [n] := by decide +kernel
section MAKER2
variable {X : Option (List Int32)} {w0 w : ex_W} {L : Nat} {S : List Nat} {p : Nat} {v : Int64} {M : List Nat} {pt cc br ic hl hr cs : Int32} {ls : List Nat} {ns : List (Nat × Nat × Nat)}
theorem c_bring1 {b c : Nat} (hc : c < 256) (K : isMk w0 w L S p v M pt cc (nI b) ic hl hr cs ls ns) (hM : M.length ≤ b) (hb : b + 1 ≤ 120) : ∃ w2, ex_call X 50 [.ref 5, .long (nI c).toInt64, .int 1] w = some (some (.int 1), w2) ∧ isMk w0 w2 L S p v (M ++ [c]) pt cc (nI (b + 1)) ic hl hr cs ls ns := by
  obtain ⟨w2, a2, K2⟩ := c_bringYes (X := X) (k := 1) (u := (nI c).toInt64) K hM hb
  rw [lowBy1 c hc] at K2
  exact ⟨w2, a2, K2⟩
theorem c_is {j : Nat} (hj : j < 33) (K : isMk w0 w L S p v M pt cc br ic hl hr cs ls ns) (E : isEn w0 L S) (hp : p ≤ S.length) : ex_call X 89 [.ref 8, .ref (1001 + j)] w = some (some (.int (if wd S p = txN j then 1 else 0)), w) := w_is hj E.2.2 (mk_W K) (mk_T K E) hp
theorem mf_of (K : isMk w0 w L S p v M pt cc br ic hl hr cs ls ns) (hp : p ≤ S.length) : isMf w0 w L S (wF S p) := ⟨_, _, _, _, _, _, _, _, _, _, _, _, K, hp, rfl⟩
theorem c_hexLoop {n : Nat} (E : isEn w0 L S) (hp : p ≤ S.length) (hB : areB S p = true) (hn : 2 * n + 1 = wT S p - wF S p) : ∀ (k i b : Nat) (M : List Nat) (w : ex_W), i + k = n → isMk w0 w L S p v M pt cc (nI b) ic hl hr cs ls ns → M.length ≤ b → b + k ≤ 120 → ∃ w2, ex_go X 48 54 [(0, .ref 5), (2, .int (nI n)), (3, .int (nI i))] [] w = ex_go X 48 80 [(0, .ref 5)] [] w2 ∧ isMk w0 w2 L S p v (M ++ hexBs S k (wF S p + 1 + 2 * i)) pt cc (nI (b + k)) ic hl hr cs ls ns := by
  have hl0 := lt_len E.1
  have wb := w_b hp
  intro k
  induction k with
  | zero =>
    intro i b M w hi K hM hb
    have e : nI n ≤ nI i := nI_le (by omega) (by omega)
    refine ⟨w, ?_, by rw [hexBs, List.append_nil]; exact K⟩
    simp (disch := first | assumption | decide) only [s48_54, s48_55, s48_56, if_pos e]
  | succ k ih =>
    intro i b M w hi K hM hb
    have e : ¬ nI n ≤ nI i := nI_ge (by omega) (by omega)
    have r5 := mk_r5 K
    have r8 := mk_r8 K
    obtain ⟨bo, blt⟩ := w_byteOf (X := X) (i := i) E.2.2 (mk_W K) (mk_T K E) hp hB (by omega)
    obtain ⟨w2, a2, K2⟩ := c_bring1 (X := X) blt K hM (by omega)
    obtain ⟨w3, a3, K3⟩ := ih (i + 1) (b + 1) _ w2 (by omega) K2 (by rw [List.length_append, List.length_singleton]; omega) (by omega)
    refine ⟨w3, ?_, ?_⟩
    · rw [s48_54]
      simp (disch := first | assumption | decide) only [s48_55, s48_56, s48_59, s48_60, s48_61, s48_64, s48_65, s48_68, s48_69, s48_70, s48_73, s48_74, s48_77, if_neg e, mk_g K, List.getElem?_cons_zero, List.getElem?_cons_succ, Option.bind_some, Option.toList_some, Option.toList_none, List.cons_append, List.nil_append, not_true_eq_false, if_false, if_true, bo, a2, nI_1, a3]
    · rw [hexBs, show wF S p + 1 + 2 * i + 2 = wF S p + 1 + 2 * (i + 1) by omega]
      rw [show b + (k + 1) = b + 1 + k by omega]
      simp only [List.append_assoc, List.cons_append, List.nil_append] at K3 ⊢
      exact K3
theorem areB_odd (h : areB S p = true) : 2 * hexK S p + 1 = wT S p - wF S p := by
  unfold areB at h
  unfold hexK
  split at h
  next c => omega
  next => cases h
theorem c_readBytes {b cn : Nat} (hcn : cn = 0 ∨ cn = 1) (K : isMk w0 w L S p v M pt cc (nI b) ic hl hr cs ls ns) (E : isEn w0 L S) (hp : p ≤ S.length) (hM : M.length ≤ b) (hb : b ≤ 120) : (∀ xs, rHex S cn p b = some xs → ∃ w2, ex_call X 48 [.ref 5, .int (nI cn)] w = some (some (.int 1), w2) ∧ isMk w0 w2 L S (wT S p) v (M ++ xs) pt cc (nI (b + xs.length)) ic hl hr cs ls ns) ∧ (rHex S cn p b = none → ∃ w2, ex_call X 48 [.ref 5, .int (nI cn)] w = some (some (.int 0), w2) ∧ isMf w0 w2 L S (wF S p)) := by
  have hl0 := lt_len E.1
  have wb := w_b hp
  have r5 := mk_r5 K
  have r8 := mk_r8 K
  have wi := w_width (X := X) (mk_W K) hp
  have dv : nI (wT S p - wF S p) / 2 = nI (hexK S p) := pk_div (d := 2) (by omega) (by decide) (by decide)
  have z2 : ¬ (2 : Int32) = 0 := by decide
  have n1 : ¬ (1 : Int32) = 0 := by decide
  have ab := w_areBytes (X := X) E.2.2 (mk_W K) (mk_T K E) hp
  have hd : ex_call X 48 [.ref 5, .int (nI cn)] w = ex_go X 48 17 [(0, .ref 5), (1, .int (nI cn)), (2, .int (nI (hexK S p)))] [.int (if areB S p = true then 1 else 0)] w := by
    show ex_go X 48 0 [(0, .ref 5), (1, .int (nI cn))] [] w = _
    simp (disch := first | assumption | decide) only [s48_0, s48_1, s48_4, s48_7, s48_8, s48_9, s48_10, s48_11, s48_14, mk_g K, List.getElem?_cons_zero, List.getElem?_cons_succ, Option.bind_some, Option.toList_some, Option.toList_none, List.cons_append, List.nil_append, not_true_eq_false, if_false, if_true, wi, dv, ab]
  rw [hd]
  unfold rHex
  by_cases cB : areB S p = true
  · rw [if_pos cB]
    have od := areB_odd cB
    have hrm := c_hasRoom (X := X) (n := cn + hexK S p) K hb (by omega)
    have hd2 : ex_go X 48 17 [(0, .ref 5), (1, .int (nI cn)), (2, .int (nI (hexK S p)))] [.int 1] w = ex_go X 48 35 [(0, .ref 5), (1, .int (nI cn)), (2, .int (nI (hexK S p)))] [.int (if b + (cn + hexK S p) ≤ 120 then 1 else 0)] w := by
      rcases hcn with c | c <;> subst c
      · rw [Nat.zero_add] at hrm ⊢
        simp (disch := first | assumption | decide) only [s48_17, s48_20, s48_21, s48_22, s48_25, s48_26, s48_27, s48_28, s48_31, s48_32, if_neg n1, if_pos, hrm, List.getElem?_cons_zero, List.getElem?_cons_succ, Option.bind_some, Option.toList_some, Option.toList_none, List.cons_append, List.nil_append, not_true_eq_false, if_false, if_true]
      · have a1 : (1 : Int32) + nI (hexK S p) = nI (1 + hexK S p) := nI_add 1 _
        simp (disch := first | assumption | decide) only [s48_17, s48_20, s48_21, s48_22, s48_25, s48_26, s48_27, s48_28, s48_31, s48_32, if_neg n1, if_neg, a1, hrm, List.getElem?_cons_zero, List.getElem?_cons_succ, Option.bind_some, Option.toList_some, Option.toList_none, List.cons_append, List.nil_append, not_true_eq_false, if_false, if_true]
    rw [hd2]
    by_cases cR : b + (cn + hexK S p) ≤ 120
    · rw [if_pos cR, if_pos ⟨cB, cR⟩]
      refine ⟨fun xs hx => ?_, fun z => (by cases z)⟩
      cases hx
      have fin : ∀ (M2 : List Nat) (w2 : ex_W), isMk w0 w2 L S p v M2 pt cc (nI (b + cn)) ic hl hr cs ls ns → M2.length ≤ b + cn → ∃ w3, ex_go X 48 52 [(0, .ref 5), (2, .int (nI (hexK S p)))] [] w2 = some (some (.int 1), w3) ∧ isMk w0 w3 L S (wT S p) v (M2 ++ hexBs S (hexK S p) (wF S p + 1)) pt cc (nI (b + cn + hexK S p)) ic hl hr cs ls ns := by
        intro M2 w2 K2 hM2
        obtain ⟨w3, a3, K3⟩ := c_hexLoop (X := X) E hp cB od (hexK S p) 0 (b + cn) M2 w2 (by omega) K2 hM2 (by omega)
        have a3 : ex_go X 48 54 [(0, .ref 5), (2, .int (nI (hexK S p))), (3, .int 0)] [] w2 = _ := a3
        have r83 := mk_r8 K3
        obtain ⟨w4, a4, K4⟩ := c_stepM (X := X) K3 E hp
        refine ⟨w4, ?_, K4⟩
        simp (disch := first | assumption | decide) only [s48_52, s48_53, a3]
        simp (disch := first | assumption | decide) only [s48_80, s48_81, s48_84, s48_87, s48_88, mk_g K3, List.getElem?_cons_zero, List.getElem?_cons_succ, Option.bind_some, Option.toList_some, Option.toList_none, List.cons_append, List.nil_append, not_true_eq_false, if_false, if_true, a4]
      rcases hcn with c | c <;> subst c
      · obtain ⟨w3, a3, K3⟩ := fin M w K hM
        refine ⟨w3, ?_, ?_⟩
        · simp (disch := first | assumption | decide) only [s48_35, s48_38, s48_39, s48_40, s48_41, if_pos n1, if_pos, a3]
        · rw [if_pos rfl, List.nil_append, hexBs_len]
          exact K3
      · obtain ⟨w2, a2, K2⟩ := c_bring1 (X := X) (c := hexK S p) (by omega) K hM (by omega)
        obtain ⟨w3, a3, K3⟩ := fin _ w2 K2 (by rw [List.length_append, List.length_singleton]; omega)
        refine ⟨w3, ?_, ?_⟩
        · simp (disch := first | assumption | decide) only [s48_35, s48_38, s48_39, s48_40, s48_41, s48_44, s48_45, s48_46, s48_47, s48_48, s48_51, if_pos n1, if_neg, a2, List.getElem?_cons_zero, List.getElem?_cons_succ, Option.bind_some, Option.toList_some, Option.toList_none, List.cons_append, List.nil_append, not_true_eq_false, if_false, if_true, a3]
        · rw [if_neg (by decide), List.length_append, hexBs_len, List.length_singleton, ← Nat.add_assoc, ← List.append_assoc]
          exact K3
    · rw [if_neg cR, if_neg (fun z => cR z.2)]
      refine ⟨fun xs hx => (by cases hx), fun _ => ⟨w, ?_, mf_of K hp⟩⟩
      simp (disch := first | assumption | decide) only [s48_35, s48_38, s48_39, List.getElem?_cons_zero, List.getElem?_cons_succ, Option.bind_some, Option.toList_some, Option.toList_none, List.cons_append, List.nil_append, not_true_eq_false, if_false, if_true]
  · rw [if_neg cB, if_neg (fun z => cB z.1)]
    refine ⟨fun xs hx => (by cases hx), fun _ => ⟨w, ?_, mf_of K hp⟩⟩
    simp (disch := first | assumption | decide) only [s48_17, s48_38, s48_39, List.getElem?_cons_zero, List.getElem?_cons_succ, Option.bind_some, Option.toList_some, Option.toList_none, List.cons_append, List.nil_append, not_true_eq_false, if_false, if_true]
theorem c_quoLoop {n : Nat} (E : isEn w0 L S) (hp : p ≤ S.length) (hn : n + 2 = wT S p - wF S p) : ∀ (k i b : Nat) (M : List Nat) (w : ex_W), i + k = n → isMk w0 w L S p v M pt cc (nI b) ic hl hr cs ls ns → M.length ≤ b → b + k ≤ 120 → ∃ w2, ex_go X 59 42 [(0, .ref 5), (1, .int (nI n)), (2, .int (nI (i + 1)))] [] w = ex_go X 59 68 [(0, .ref 5)] [] w2 ∧ isMk w0 w2 L S p v (M ++ rawL S (wF S p + 1 + i) k) pt cc (nI (b + k)) ic hl hr cs ls ns := by
  have hl0 := lt_len E.1
  have wb := w_b hp
  intro k
  induction k with
  | zero =>
    intro i b M w hi K hM hb
    have e : nI n < nI (i + 1) := nI_lt (by omega) (by omega)
    refine ⟨w, ?_, by rw [rawL, List.append_nil]; exact K⟩
    simp (disch := first | assumption | decide) only [s59_42, s59_43, s59_44, if_pos e]
  | succ k ih =>
    intro i b M w hi K hM hb
    have e : ¬ nI n < nI (i + 1) := nI_nlt (by omega) (by omega)
    have r5 := mk_r5 K
    have r8 := mk_r8 K
    have lt := w_letter (X := X) (i := i + 1) E.2.2 (mk_W K) (mk_T K E) hp (by omega)
    rw [ltr, if_pos (by omega), show wF S p + (i + 1) = wF S p + 1 + i by omega] at lt
    obtain ⟨w2, a2, K2⟩ := c_bring1 (X := X) (lt_b E.1 (wF S p + 1 + i)) K hM (by omega)
    obtain ⟨w3, a3, K3⟩ := ih (i + 1) (b + 1) _ w2 (by omega) K2 (by rw [List.length_append, List.length_singleton]; omega) (by omega)
    refine ⟨w3, ?_, ?_⟩
    · rw [s59_42]
      simp (disch := first | assumption | decide) only [s59_43, s59_44, s59_47, s59_48, s59_49, s59_52, s59_53, s59_56, s59_57, s59_58, s59_61, s59_62, s59_65, if_neg e, mk_g K, List.getElem?_cons_zero, List.getElem?_cons_succ, Option.bind_some, Option.toList_some, Option.toList_none, List.cons_append, List.nil_append, not_true_eq_false, if_false, if_true, lt, a2, nI_1, a3]
    · rw [rawL, show wF S p + 1 + i + 1 = wF S p + 1 + (i + 1) by omega]
      rw [show b + (k + 1) = b + 1 + k by omega]
      simp only [List.append_assoc, List.cons_append, List.nil_append] at K3 ⊢
      exact K3
theorem isQ_len (h : isQ S p = true) : quoK S p + 2 = wT S p - wF S p ∧ 1 ≤ quoK S p := by
  unfold isQ at h
  unfold quoK
  split at h
  next c => omega
  next => cases h
theorem c_readQuoted {b : Nat} (K : isMk w0 w L S p v M pt cc (nI b) ic hl hr cs ls ns) (E : isEn w0 L S) (hp : p ≤ S.length) (hM : M.length ≤ b) (hb : b ≤ 120) : (∀ xs, rQuo S p b = some xs → ∃ w2, ex_call X 59 [.ref 5] w = some (some (.int 1), w2) ∧ isMk w0 w2 L S (wT S p) v (M ++ xs) pt cc (nI (b + xs.length)) ic hl hr cs ls ns) ∧ (rQuo S p b = none → ∃ w2, ex_call X 59 [.ref 5] w = some (some (.int 0), w2) ∧ isMf w0 w2 L S (wF S p)) := by
  have hl0 := lt_len E.1
  have wb := w_b hp
  have r5 := mk_r5 K
  have r8 := mk_r8 K
  have wi := w_width (X := X) (mk_W K) hp
  have n1 : ¬ (1 : Int32) = 0 := by decide
  have iq := w_isQuoted (X := X) E.2.2 (mk_W K) (mk_T K E) hp
  have hd : ex_call X 59 [.ref 5] w = ex_go X 59 17 [(0, .ref 5), (1, .int (nI (wT S p - wF S p) - 2))] [.int (if isQ S p = true then 1 else 0)] w := by
    show ex_go X 59 0 [(0, .ref 5)] [] w = _
    simp (disch := first | assumption | decide) only [s59_0, s59_1, s59_4, s59_7, s59_8, s59_9, s59_10, s59_11, s59_14, mk_g K, List.getElem?_cons_zero, List.getElem?_cons_succ, Option.bind_some, Option.toList_some, Option.toList_none, List.cons_append, List.nil_append, not_true_eq_false, if_false, if_true, wi, iq]
  rw [hd]
  unfold rQuo
  by_cases cB : isQ S p = true
  · rw [if_pos cB]
    have od := isQ_len cB
    have sb : nI (wT S p - wF S p) - 2 = nI (quoK S p) := by
      rw [← od.1]
      exact pk_sub (a := quoK S p + 2) (b := 2) (by omega)
    have hrm := c_hasRoom (X := X) (n := 1 + quoK S p) K hb (by omega)
    have a1 : (1 : Int32) + nI (quoK S p) = nI (1 + quoK S p) := nI_add 1 _
    have hd2 : ex_go X 59 17 [(0, .ref 5), (1, .int (nI (wT S p - wF S p) - 2))] [.int 1] w = ex_go X 59 27 [(0, .ref 5), (1, .int (nI (quoK S p)))] [.int (if b + (1 + quoK S p) ≤ 120 then 1 else 0)] w := by
      rw [sb]
      simp (disch := first | assumption | decide) only [s59_17, s59_20, s59_21, s59_22, s59_23, s59_24, if_neg n1, a1, hrm, List.getElem?_cons_zero, List.getElem?_cons_succ, Option.bind_some, Option.toList_some, Option.toList_none, List.cons_append, List.nil_append, not_true_eq_false, if_false, if_true]
    rw [hd2]
    by_cases cR : b + (1 + quoK S p) ≤ 120
    · rw [if_pos cR, if_pos ⟨cB, cR⟩]
      refine ⟨fun xs hx => ?_, fun z => (by cases z)⟩
      cases hx
      obtain ⟨w2, a2, K2⟩ := c_bring1 (X := X) (c := quoK S p) (by omega) K hM (by omega)
      obtain ⟨w3, a3, K3⟩ := c_quoLoop (X := X) E hp od.1 (quoK S p) 0 (b + 1) _ w2 (by omega) K2 (by rw [List.length_append, List.length_singleton]; omega) (by omega)
      have a3 : ex_go X 59 42 [(0, .ref 5), (1, .int (nI (quoK S p))), (2, .int 1)] [] w2 = _ := a3
      have r83 := mk_r8 K3
      obtain ⟨w4, a4, K4⟩ := c_stepM (X := X) K3 E hp
      refine ⟨w4, ?_, ?_⟩
      · simp (disch := first | assumption | decide) only [s59_27, s59_30, s59_31, s59_32, s59_33, s59_34, s59_35, s59_36, s59_39, s59_40, s59_41, if_pos n1, a2, List.getElem?_cons_zero, List.getElem?_cons_succ, Option.bind_some, Option.toList_some, Option.toList_none, List.cons_append, List.nil_append, not_true_eq_false, if_false, if_true, a3]
        simp (disch := first | assumption | decide) only [s59_68, s59_69, s59_72, s59_75, s59_76, mk_g K3, List.getElem?_cons_zero, List.getElem?_cons_succ, Option.bind_some, Option.toList_some, Option.toList_none, List.cons_append, List.nil_append, not_true_eq_false, if_false, if_true, a4]
      · rw [List.length_cons, rawL_len, show b + (quoK S p + 1) = b + 1 + quoK S p by omega]
        simp only [List.append_assoc, List.cons_append, List.nil_append] at K4 ⊢
        exact K4
    · rw [if_neg cR, if_neg (fun z => cR z.2)]
      refine ⟨fun xs hx => (by cases hx), fun _ => ⟨w, ?_, mf_of K hp⟩⟩
      simp (disch := first | assumption | decide) only [s59_27, s59_30, s59_31, List.getElem?_cons_zero, List.getElem?_cons_succ, Option.bind_some, Option.toList_some, Option.toList_none, List.cons_append, List.nil_append, not_true_eq_false, if_false, if_true]
  · rw [if_neg cB, if_neg (fun z => cB z.1)]
    refine ⟨fun xs hx => (by cases hx), fun _ => ⟨w, ?_, mf_of K hp⟩⟩
    simp (disch := first | assumption | decide) only [s59_17, s59_30, s59_31, List.getElem?_cons_zero, List.getElem?_cons_succ, Option.bind_some, Option.toList_some, Option.toList_none, List.cons_append, List.nil_append, not_true_eq_false, if_false, if_true]
def kwN (S : List Nat) (p : Nat) : Nat := if wd S p = txN 1 then 1 else if wd S p = txN 2 then 2 else if wd S p = txN 3 then 3 else if wd S p = txN 4 then 4 else 0
def pwN (S : List Nat) (p : Nat) : Nat := if wd S p = txN 5 then 1 else if wd S p = txN 6 then 2 else if wd S p = txN 7 then 3 else 0
theorem c_kindOfWord (K : isMk w0 w L S p v M pt cc br ic hl hr cs ls ns) (E : isEn w0 L S) (hp : p ≤ S.length) : ex_call X 56 [.ref 5] w = some (some (.int (if kwN S p = 0 then -1 else nI (kwN S p))), w) := by
  have r8 := mk_r8 K
  have n1 : ¬ (1 : Int32) = 0 := by decide
  have i1 : ex_call X 89 [.ref 8, .ref 1002] w = _ := c_is (X := X) (j := 1) (by decide) K E hp
  have i2 : ex_call X 89 [.ref 8, .ref 1003] w = _ := c_is (X := X) (j := 2) (by decide) K E hp
  have i3 : ex_call X 89 [.ref 8, .ref 1004] w = _ := c_is (X := X) (j := 3) (by decide) K E hp
  have i4 : ex_call X 89 [.ref 8, .ref 1005] w = _ := c_is (X := X) (j := 4) (by decide) K E hp
  show ex_go X 56 0 [(0, .ref 5)] [] w = _
  unfold kwN
  by_cases c1 : wd S p = txN 1
  · rw [if_pos c1] at i1
    rw [if_pos c1, if_neg (by decide)]
    simp (disch := first | assumption | decide) only [s56_0, s56_1, s56_4, s56_6, s56_9, s56_12, s56_13, s56_14, s56_15, s56_18, s56_20, s56_23, s56_26, s56_27, s56_28, s56_29, s56_32, s56_34, s56_37, s56_40, s56_41, s56_42, s56_43, s56_46, s56_48, s56_51, s56_54, s56_55, s56_58, s56_59, mk_g K, List.getElem?_cons_zero, List.getElem?_cons_succ, Option.bind_some, Option.toList_some, Option.toList_none, List.cons_append, List.nil_append, not_true_eq_false, if_false, if_true, i1, if_neg n1]
    rfl
  · rw [if_neg c1] at i1
    rw [if_neg c1]
    by_cases c2 : wd S p = txN 2
    · rw [if_pos c2] at i2
      rw [if_pos c2, if_neg (by decide)]
      simp (disch := first | assumption | decide) only [s56_0, s56_1, s56_4, s56_6, s56_9, s56_12, s56_13, s56_14, s56_15, s56_18, s56_20, s56_23, s56_26, s56_27, s56_28, s56_29, s56_32, s56_34, s56_37, s56_40, s56_41, s56_42, s56_43, s56_46, s56_48, s56_51, s56_54, s56_55, s56_58, s56_59, mk_g K, List.getElem?_cons_zero, List.getElem?_cons_succ, Option.bind_some, Option.toList_some, Option.toList_none, List.cons_append, List.nil_append, not_true_eq_false, if_false, if_true, i1, i2, if_neg n1]
      rfl
    · rw [if_neg c2] at i2
      rw [if_neg c2]
      by_cases c3 : wd S p = txN 3
      · rw [if_pos c3] at i3
        rw [if_pos c3, if_neg (by decide)]
        simp (disch := first | assumption | decide) only [s56_0, s56_1, s56_4, s56_6, s56_9, s56_12, s56_13, s56_14, s56_15, s56_18, s56_20, s56_23, s56_26, s56_27, s56_28, s56_29, s56_32, s56_34, s56_37, s56_40, s56_41, s56_42, s56_43, s56_46, s56_48, s56_51, s56_54, s56_55, s56_58, s56_59, mk_g K, List.getElem?_cons_zero, List.getElem?_cons_succ, Option.bind_some, Option.toList_some, Option.toList_none, List.cons_append, List.nil_append, not_true_eq_false, if_false, if_true, i1, i2, i3, if_neg n1]
        rfl
      · rw [if_neg c3] at i3
        rw [if_neg c3]
        by_cases c4 : wd S p = txN 4
        · rw [if_pos c4] at i4
          rw [if_pos c4, if_neg (by decide)]
          simp (disch := first | assumption | decide) only [s56_0, s56_1, s56_4, s56_6, s56_9, s56_12, s56_13, s56_14, s56_15, s56_18, s56_20, s56_23, s56_26, s56_27, s56_28, s56_29, s56_32, s56_34, s56_37, s56_40, s56_41, s56_42, s56_43, s56_46, s56_48, s56_51, s56_54, s56_55, s56_58, s56_59, mk_g K, List.getElem?_cons_zero, List.getElem?_cons_succ, Option.bind_some, Option.toList_some, Option.toList_none, List.cons_append, List.nil_append, not_true_eq_false, if_false, if_true, i1, i2, i3, i4, if_neg n1]
          rfl
        · rw [if_neg c4] at i4
          rw [if_neg c4, if_pos rfl]
          simp (disch := first | assumption | decide) only [s56_0, s56_1, s56_4, s56_6, s56_9, s56_12, s56_13, s56_14, s56_15, s56_18, s56_20, s56_23, s56_26, s56_27, s56_28, s56_29, s56_32, s56_34, s56_37, s56_40, s56_41, s56_42, s56_43, s56_46, s56_48, s56_51, s56_54, s56_55, s56_58, s56_59, mk_g K, List.getElem?_cons_zero, List.getElem?_cons_succ, Option.bind_some, Option.toList_some, Option.toList_none, List.cons_append, List.nil_append, not_true_eq_false, if_false, if_true, i1, i2, i3, i4]
theorem c_partOfWord (K : isMk w0 w L S p v M pt cc br ic hl hr cs ls ns) (E : isEn w0 L S) (hp : p ≤ S.length) : ex_call X 57 [.ref 5] w = some (some (.int (if pwN S p = 0 then -1 else nI (pwN S p))), w) := by
  have r8 := mk_r8 K
  have n1 : ¬ (1 : Int32) = 0 := by decide
  have i1 : ex_call X 89 [.ref 8, .ref 1006] w = _ := c_is (X := X) (j := 5) (by decide) K E hp
  have i2 : ex_call X 89 [.ref 8, .ref 1007] w = _ := c_is (X := X) (j := 6) (by decide) K E hp
  have i3 : ex_call X 89 [.ref 8, .ref 1008] w = _ := c_is (X := X) (j := 7) (by decide) K E hp
  show ex_go X 57 0 [(0, .ref 5)] [] w = _
  unfold pwN
  by_cases c1 : wd S p = txN 5
  · rw [if_pos c1] at i1
    rw [if_pos c1, if_neg (by decide)]
    simp (disch := first | assumption | decide) only [s57_0, s57_1, s57_4, s57_6, s57_9, s57_12, s57_13, s57_14, s57_15, s57_18, s57_20, s57_23, s57_26, s57_27, s57_28, s57_29, s57_32, s57_34, s57_37, s57_40, s57_41, s57_44, s57_45, mk_g K, List.getElem?_cons_zero, List.getElem?_cons_succ, Option.bind_some, Option.toList_some, Option.toList_none, List.cons_append, List.nil_append, not_true_eq_false, if_false, if_true, i1, if_neg n1]
    rfl
  · rw [if_neg c1] at i1
    rw [if_neg c1]
    by_cases c2 : wd S p = txN 6
    · rw [if_pos c2] at i2
      rw [if_pos c2, if_neg (by decide)]
      simp (disch := first | assumption | decide) only [s57_0, s57_1, s57_4, s57_6, s57_9, s57_12, s57_13, s57_14, s57_15, s57_18, s57_20, s57_23, s57_26, s57_27, s57_28, s57_29, s57_32, s57_34, s57_37, s57_40, s57_41, s57_44, s57_45, mk_g K, List.getElem?_cons_zero, List.getElem?_cons_succ, Option.bind_some, Option.toList_some, Option.toList_none, List.cons_append, List.nil_append, not_true_eq_false, if_false, if_true, i1, i2, if_neg n1]
      rfl
    · rw [if_neg c2] at i2
      rw [if_neg c2]
      by_cases c3 : wd S p = txN 7
      · rw [if_pos c3] at i3
        rw [if_pos c3, if_neg (by decide)]
        simp (disch := first | assumption | decide) only [s57_0, s57_1, s57_4, s57_6, s57_9, s57_12, s57_13, s57_14, s57_15, s57_18, s57_20, s57_23, s57_26, s57_27, s57_28, s57_29, s57_32, s57_34, s57_37, s57_40, s57_41, s57_44, s57_45, mk_g K, List.getElem?_cons_zero, List.getElem?_cons_succ, Option.bind_some, Option.toList_some, Option.toList_none, List.cons_append, List.nil_append, not_true_eq_false, if_false, if_true, i1, i2, i3, if_neg n1]
        rfl
      · rw [if_neg c3] at i3
        rw [if_neg c3, if_pos rfl]
        simp (disch := first | assumption | decide) only [s57_0, s57_1, s57_4, s57_6, s57_9, s57_12, s57_13, s57_14, s57_15, s57_18, s57_20, s57_23, s57_26, s57_27, s57_28, s57_29, s57_32, s57_34, s57_37, s57_40, s57_41, s57_44, s57_45, mk_g K, List.getElem?_cons_zero, List.getElem?_cons_succ, Option.bind_some, Option.toList_some, Option.toList_none, List.cons_append, List.nil_append, not_true_eq_false, if_false, if_true, i1, i2, i3]
end MAKER2
