/-! what the class asks of the word in hand -/
def wd (S : List Nat) (p : Nat) : List Nat := (S.drop (wF S p)).take (wT S p - wF S p)
theorem wd_len {S : List Nat} {p : Nat} (hp : p ≤ S.length) : (wd S p).length = wT S p - wF S p := by
  have := w_b hp
  unfold wd
  rw [List.length_take, List.length_drop]
  omega
theorem wd_get {S : List Nat} {p i : Nat} (hi : i < wT S p - wF S p) : (wd S p).getD i 0 = S.getD (wF S p + i) 0 := by
  unfold wd
  rw [List.getD_eq_getElem?_getD, List.getD_eq_getElem?_getD, List.getElem?_take_of_lt hi, List.getElem?_drop]
/-- a number -/
def rdN (S : List Nat) (p : Nat) : Option Int64 := if S.getD (wF S p) 0 = 45 then (match numW S (wF S p + 1) (wT S p) with
    | some N => if N = 0 ∨ 2 ^ 63 < N then none else some (ng N)
    | none => none) else (match numW S (wF S p) (wT S p) with
    | some N => if N < 2 ^ 63 then some (-(ng N)) else none
    | none => none)
/-- a distance -/
def rdD (S : List Nat) (p : Nat) : Option Int64 := if S.getD (wF S p) 0 = 45 then (match numW S (wF S p + 1) (wT S p) with
    | some N => if N = 0 ∨ 32768 < N then none else some (ng N)
    | none => none) else if S.getD (wF S p) 0 = 43 then (match numW S (wF S p + 1) (wT S p) with
    | some N => if N ≤ 32767 then some (-(ng N)) else none
    | none => none) else none
/-- an @K -/
def rdL (S : List Nat) (p : Nat) : Option Nat := if S.getD (wF S p) 0 = 64 then numW S (wF S p + 1) (wT S p) else none
def lbV (N : Nat) : Int64 := if N ≤ 2147483647 then -(ng N) else 2147483647
def fr8 (w w2 : ex_W) : Prop := w2.length = w.length ∧ ∀ j, j ≠ 8 → w2[j]? = w[j]?
theorem fr8_set {w : ex_W} {c : ex_C} : fr8 w (w.set 8 c) := ⟨List.length_set, fun j h => List.getElem?_set_ne (Ne.symm h)⟩
theorem fr8_id {w : ex_W} : fr8 w w := ⟨rfl, fun _ _ => rfl⟩
theorem numW_no {S : List Nat} {a t : Nat} (h : ¬ (48 ≤ S.getD a 0 ∧ S.getD a 0 ≤ 57)) : numW S a t = none := by
  unfold numW
  split
  next c =>
    obtain ⟨k, hk⟩ : ∃ k, t - a = k + 1 := ⟨t - a - 1, by omega⟩
    rw [hk, nuV, if_neg h]
  next => rfl
theorem ngN_toInt {N : Nat} (h : N < 2 ^ 63) : (-(ng N)).toInt = (N : Int) := by
  rw [Int64.toInt_neg, ng_toInt (by omega), Int.bmod_eq_of_le (by omega) (by omega)]
  omega
section WORDS4
variable {X : Option (List Int32)} {w : ex_W} {L : Nat} {S : List Nat} {p : Nat} {v : Int64}
theorem w_isLoop {j : Nat} (hj : j < 33) (hL : L < 1000) (W : isWo w L S p v) (T : isLt w L S) (hp : p ≤ S.length) (hlen : wT S p - wF S p = (txN j).length) : ∀ (k i : Nat), i + k = (txN j).length → ex_go X 89 20 [(0, .ref 8), (1, .ref (1001 + j)), (2, .int (nI i))] [] w = some (some (.int (if (wd S p).drop i = (txN j).drop i then 1 else 0)), w) := by
  obtain ⟨k1, k2, k3⟩ := txN_ok j hj
  have r8 := w_rc W
  have rt := t_rc (w := w) hj
  have tl := t_length (X := X) (w := w) hj
  have wl := wd_len hp
  intro k
  induction k with
  | zero =>
    intro i hi
    have e : nI (kX j).length ≤ nI i := nI_le (by omega) (by omega)
    rw [if_pos (by rw [List.drop_eq_nil_of_le (by omega), List.drop_eq_nil_of_le (by omega)])]
    simp (disch := first | assumption | decide) only [s89_20, s89_21, s89_22, s89_25, s89_49, s89_50, tl, List.getElem?_cons_zero, List.getElem?_cons_succ, Option.bind_some, Option.toList_some, Option.toList_none, List.cons_append, List.nil_append, not_true_eq_false, if_false, if_true, if_pos e]
  | succ k ih =>
    intro i hi
    have e : ¬ nI (kX j).length ≤ nI i := nI_ge (by omega) (by omega)
    have lt := w_letter (X := X) (i := i) hL W T hp (by omega)
    have ca := t_charAt (X := X) (w := w) (i := i) hj (by omega)
    rw [k3 i (by omega)] at ca
    have el : ltr S p i = (wd S p).getD i 0 := by rw [ltr, if_pos (by omega), wd_get (by omega)]
    have hb := lt_b T (wF S p + i)
    have hb2 : (txN j).getD i 0 < 256 := by
      have : ∀ j, j < 33 → ∀ i, i < 10 → (txN j).getD i 0 < 256 := by decide +kernel
      exact this j hj i (by omega)
    rw [el] at lt
    rw [← wd_get (by omega)] at hb
    rw [drop_getD (l := wd S p) (by omega), drop_getD (l := txN j) (by omega), s89_20]
    by_cases c : (wd S p).getD i 0 = (txN j).getD i 0
    · have e2 : nI ((wd S p).getD i 0) = nI ((txN j).getD i 0) := by rw [c]
      simp (disch := first | assumption | decide) only [s89_21, s89_22, s89_25, s89_28, s89_29, s89_30, s89_33, s89_34, s89_35, s89_38, s89_41, s89_42, s89_43, s89_46, tl, List.getElem?_cons_zero, List.getElem?_cons_succ, Option.bind_some, Option.toList_some, Option.toList_none, List.cons_append, List.nil_append, not_true_eq_false, if_false, if_true, if_neg e, lt, ca, if_pos e2, nI_1, ih (i + 1) (by omega)]
      by_cases d : (wd S p).drop (i + 1) = (txN j).drop (i + 1)
      · rw [if_pos d, if_pos (by rw [c, d])]
      · rw [if_neg d, if_neg (fun z => d (List.cons.inj z).2)]
    · have e2 : ¬ nI ((wd S p).getD i 0) = nI ((txN j).getD i 0) := fun z => c ((nI_eq (by omega) (by omega)).mp z)
      rw [if_neg (fun z => c (List.cons.inj z).1)]
      simp (disch := first | assumption | decide) only [s89_21, s89_22, s89_25, s89_28, s89_29, s89_30, s89_33, s89_34, s89_35, s89_38, s89_41, s89_42, s89_43, s89_46, tl, List.getElem?_cons_zero, List.getElem?_cons_succ, Option.bind_some, Option.toList_some, Option.toList_none, List.cons_append, List.nil_append, not_true_eq_false, if_false, if_true, if_neg e, lt, ca, if_neg e2]
theorem w_is {j : Nat} (hj : j < 33) (hL : L < 1000) (W : isWo w L S p v) (T : isLt w L S) (hp : p ≤ S.length) : ex_call X 89 [.ref 8, .ref (1001 + j)] w = some (some (.int (if wd S p = txN j then 1 else 0)), w) := by
  obtain ⟨k1, k2, k3⟩ := txN_ok j hj
  have hl := lt_len T
  have wb := w_b hp
  have wl := wd_len hp
  have rt := t_rc (w := w) hj
  have tl := t_length (X := X) (w := w) hj
  have sb : nI (wT S p) - nI (wF S p) = nI (wT S p - wF S p) := pk_sub wb.2.1
  show ex_go X 89 0 [(0, .ref 8), (1, .ref (1001 + j))] [] w = _
  obtain ⟨hn, bl, ls, h8, hN⟩ := W
  by_cases c : wT S p - wF S p = (txN j).length
  · have e : nI (wT S p - wF S p) = nI (kX j).length := by rw [c, k1]
    have lp := w_isLoop (X := X) hj hL ⟨hn, bl, ls, h8, hN⟩ T hp c (txN j).length 0 (by omega)
    rw [List.drop_zero, List.drop_zero] at lp
    have lp : ex_go X 89 20 [(0, .ref 8), (1, .ref (1001 + j)), (2, .int 0)] [] w = _ := lp
    simp (disch := first | assumption | decide) only [s89_0, s89_1, s89_4, s89_5, s89_8, s89_9, s89_10, s89_13, s89_16, s89_17, s89_18, s89_19, ex_gf_i h8, List.getElem?_cons_zero, List.getElem?_cons_succ, Option.bind_some, Option.toList_some, Option.toList_none, List.cons_append, List.nil_append, not_true_eq_false, if_false, if_true, sb, tl, if_pos e, lp]
  · have e : ¬ nI (wT S p - wF S p) = nI (kX j).length := fun z => c (by rw [k1]; exact (nI_eq (by omega) (by omega)).mp z)
    rw [if_neg (fun z => c (by rw [← wl, z]))]
    simp (disch := first | assumption | decide) only [s89_0, s89_1, s89_4, s89_5, s89_8, s89_9, s89_10, s89_13, s89_16, s89_17, ex_gf_i h8, List.getElem?_cons_zero, List.getElem?_cons_succ, Option.bind_some, Option.toList_some, Option.toList_none, List.cons_append, List.nil_append, not_true_eq_false, if_false, if_true, sb, tl, if_neg e]
theorem w_setV {c : ex_C} {hn bl : Int32} {ls u : Int64} (h8 : w[8]? = some c) (hN : nRes (numW S (nuA S (wF S p)) (wT S p)) hn bl ls) : isWo (w.set 8 (wo L (nI S.length) (nI (wF S p)) (nI (wT S p)) (nI (sgS S (wF S p))) hn bl ls u)) L S p u := ⟨hn, bl, ls, ex_set_s h8, hN⟩
theorem w_isNumber {m M : Int64} (hL : L < 1000) (W : isWo w L S p v) (T : isLt w L S) (hm : m.toInt ≤ 0) (hM : 0 ≤ M.toInt) : ∃ w2 v2 r, ex_call X 91 [.ref 8, .long m, .long M] w = some (some (.int r), w2) ∧ fr8 w w2 ∧ isWo w2 L S p v2 ∧ ((r = 1 ∧ rdN S p = some v2 ∧ m ≤ v2 ∧ v2 ≤ M) ∨ (r = 0 ∧ ∀ u, rdN S p = some u → ¬ (m ≤ u ∧ u ≤ M))) := by
  have hb := lt_b T (wF S p)
  have W0 := W
  obtain ⟨hn, bl, ls, h8, hN⟩ := W
  have n1 : ¬ (1 : Int32) = 0 := by decide
  show ∃ w2 v2 r, ex_go X 91 0 [(0, .ref 8), (1, .long m), (3, .long M)] [] w = _ ∧ _
  unfold rdN
  by_cases s : S.getD (wF S p) 0 = 45
  · have es : sgS S (wF S p) = 45 := by unfold sgS; rw [if_pos (Or.inr (Or.inl s)), s]
    have ea : nuA S (wF S p) = wF S p + 1 := by unfold nuA; rw [es, if_neg (by decide)]
    have N1 := hN
    rw [ea] at N1
    rw [es] at h8
    rw [if_pos s]
    have e45 : ¬ ¬ nI 45 = 45 := by decide
    cases hw : numW S (wF S p + 1) (wT S p) with
    | none =>
      have h0 := N1.1 hw
      subst h0
      refine ⟨w, v, 0, ?_, fr8_id, W0, Or.inr ⟨rfl, fun u z => by cases z⟩⟩
      simp (disch := first | assumption | decide) only [s91_0, s91_1, s91_4, s91_7, s91_8, s91_11, s91_14, s91_15, s91_16, s91_17, s91_20, s91_22, s91_25, s91_26, s91_27, s91_30, s91_33, s91_34, s91_37, s91_38, s91_39, s91_42, s91_43, s91_46, s91_47, s91_48, s91_51, s91_52, s91_55, s91_56, s91_57, s91_58, s91_59, s91_62, s91_63, s91_66, s91_67, s91_70, s91_73, s91_74, s91_77, s91_78, s91_79, s91_80, s91_83, s91_84, s91_87, s91_88, ex_gf_i h8, List.getElem?_cons_zero, List.getElem?_cons_succ, Option.bind_some, Option.toList_some, Option.toList_none, List.cons_append, List.nil_append, not_true_eq_false, if_false, if_true]
    | some N =>
      obtain ⟨h0, h1⟩ := N1.2 N hw
      subst h0
      by_cases b : N ≤ 2 ^ 63
      · obtain ⟨b1, b2⟩ := h1.1 b
        subst b1
        subst b2
        have tn := ng_toInt b
        have W2 : isWo (w.set 8 (wo L (nI S.length) (nI (wF S p)) (nI (wT S p)) (nI (sgS S (wF S p))) 1 0 (ng N) (ng N))) L S p (ng N) := w_setV h8 hN
        rw [es] at W2
        have g8 : (w.set 8 (wo L (nI S.length) (nI (wF S p)) (nI (wT S p)) (nI 45) 1 0 (ng N) (ng N)))[8]? = some (wo L (nI S.length) (nI (wF S p)) (nI (wT S p)) (nI 45) 1 0 (ng N) (ng N)) := ex_set_s h8
        by_cases z : N = 0
        · have e0 : lg_cmp (ng N) 0 = 0 := (lg_cmp_eq _ 0).mpr (by rw [z]; rfl)
          refine ⟨_, ng N, 0, ?_, fr8_set, W2, Or.inr ⟨rfl, fun u hu => ?_⟩⟩
          · simp (disch := first | assumption | decide) only [s91_0, s91_1, s91_4, s91_7, s91_8, s91_11, s91_14, s91_15, s91_16, s91_17, s91_20, s91_22, s91_25, s91_26, s91_27, s91_30, s91_33, s91_34, s91_37, s91_38, s91_39, s91_42, s91_43, s91_46, s91_47, s91_48, s91_51, s91_52, s91_55, s91_56, s91_57, s91_58, s91_59, s91_62, s91_63, s91_66, s91_67, s91_70, s91_73, s91_74, s91_77, s91_78, s91_79, s91_80, s91_83, s91_84, s91_87, s91_88, ex_gf_i h8, List.getElem?_cons_zero, List.getElem?_cons_succ, Option.bind_some, Option.toList_some, Option.toList_none, List.cons_append, List.nil_append, not_true_eq_false, if_false, if_true, if_neg n1, if_neg e45, wp8 h8, ex_gf_i g8, e0]
          · rw [show (match some N with | some N => if N = 0 ∨ 2 ^ 63 < N then none else some (ng N) | none => none) = (none : Option Int64) from if_pos (Or.inl z)] at hu
            cases hu
        · have e0 : ¬ lg_cmp (ng N) 0 = 0 := fun y => by
            have := (lg_cmp_eq _ 0).mp y
            rw [l0_i, tn] at this
            omega
          have er : (match some N with | some N => if N = 0 ∨ 2 ^ 63 < N then none else some (ng N) | none => none) = some (ng N) := if_neg (by omega)
          rw [er]
          by_cases g : m ≤ ng N
          · have g1 : ¬ lg_cmp (ng N) m < 0 := by
              have := (lg_cmp_ge (ng N) m).mpr g
              exact fun y => by
                rw [Int32.le_iff_toInt_le] at this
                rw [Int32.lt_iff_toInt_lt] at y
                omega
            refine ⟨_, ng N, 1, ?_, fr8_set, W2, Or.inl ⟨rfl, rfl, g, ?_⟩⟩
            · simp (disch := first | assumption | decide) only [s91_0, s91_1, s91_4, s91_7, s91_8, s91_11, s91_14, s91_15, s91_16, s91_17, s91_20, s91_22, s91_25, s91_26, s91_27, s91_30, s91_33, s91_34, s91_37, s91_38, s91_39, s91_42, s91_43, s91_46, s91_47, s91_48, s91_51, s91_52, s91_55, s91_56, s91_57, s91_58, s91_59, s91_62, s91_63, s91_66, s91_67, s91_70, s91_73, s91_74, s91_77, s91_78, s91_79, s91_80, s91_83, s91_84, s91_87, s91_88, ex_gf_i h8, List.getElem?_cons_zero, List.getElem?_cons_succ, Option.bind_some, Option.toList_some, Option.toList_none, List.cons_append, List.nil_append, not_true_eq_false, if_false, if_true, if_neg n1, if_neg e45, wp8 h8, ex_gf_i g8, if_neg e0, if_neg g1]
            · rw [Int64.le_iff_toInt_le, tn]
              omega
          · have g1 : lg_cmp (ng N) m < 0 := by
              have h : ¬ 0 ≤ lg_cmp (ng N) m := fun y => g ((lg_cmp_ge (ng N) m).mp y)
              rw [Int32.le_iff_toInt_le] at h
              rw [Int32.lt_iff_toInt_lt]
              omega
            refine ⟨_, ng N, 0, ?_, fr8_set, W2, Or.inr ⟨rfl, fun u hu => ?_⟩⟩
            · simp (disch := first | assumption | decide) only [s91_0, s91_1, s91_4, s91_7, s91_8, s91_11, s91_14, s91_15, s91_16, s91_17, s91_20, s91_22, s91_25, s91_26, s91_27, s91_30, s91_33, s91_34, s91_37, s91_38, s91_39, s91_42, s91_43, s91_46, s91_47, s91_48, s91_51, s91_52, s91_55, s91_56, s91_57, s91_58, s91_59, s91_62, s91_63, s91_66, s91_67, s91_70, s91_73, s91_74, s91_77, s91_78, s91_79, s91_80, s91_83, s91_84, s91_87, s91_88, ex_gf_i h8, List.getElem?_cons_zero, List.getElem?_cons_succ, Option.bind_some, Option.toList_some, Option.toList_none, List.cons_append, List.nil_append, not_true_eq_false, if_false, if_true, if_neg n1, if_neg e45, wp8 h8, ex_gf_i g8, if_neg e0, if_pos g1]
            · cases hu
              exact fun y => g y.1
      · have b1 := h1.2 b
        subst b1
        have er : (match some N with | some N => if N = 0 ∨ 2 ^ 63 < N then none else some (ng N) | none => none) = none := if_pos (by omega)
        refine ⟨w, v, 0, ?_, fr8_id, W0, Or.inr ⟨rfl, fun u hu => ?_⟩⟩
        · simp (disch := first | assumption | decide) only [s91_0, s91_1, s91_4, s91_7, s91_8, s91_11, s91_14, s91_15, s91_16, s91_17, s91_20, s91_22, s91_25, s91_26, s91_27, s91_30, s91_33, s91_34, s91_37, s91_38, s91_39, s91_42, s91_43, s91_46, s91_47, s91_48, s91_51, s91_52, s91_55, s91_56, s91_57, s91_58, s91_59, s91_62, s91_63, s91_66, s91_67, s91_70, s91_73, s91_74, s91_77, s91_78, s91_79, s91_80, s91_83, s91_84, s91_87, s91_88, ex_gf_i h8, List.getElem?_cons_zero, List.getElem?_cons_succ, Option.bind_some, Option.toList_some, Option.toList_none, List.cons_append, List.nil_append, not_true_eq_false, if_false, if_true, if_neg n1]
        · rw [er] at hu
          cases hu
  · rw [if_neg s]
    have sgb : sgS S (wF S p) < 256 := by unfold sgS; split <;> omega
    have e45 : ¬ nI (sgS S (wF S p)) = 45 := fun z => by
      have := (nI_eq (b := 45) (by omega) (by decide)).mp z
      unfold sgS at this
      split at this
      · exact s this
      · omega
    by_cases c0 : sgS S (wF S p) = 0
    · have ea : nuA S (wF S p) = wF S p := by unfold nuA; rw [if_pos c0]
      have N1 := hN
      rw [ea] at N1
      have s0 : ¬ ¬ nI (sgS S (wF S p)) = 0 := by rw [c0]; decide
      cases hw : numW S (wF S p) (wT S p) with
      | none =>
        have h0 := N1.1 hw
        subst h0
        refine ⟨w, v, 0, ?_, fr8_id, W0, Or.inr ⟨rfl, fun u z => by cases z⟩⟩
        simp (disch := first | assumption | decide) only [s91_0, s91_1, s91_4, s91_7, s91_8, s91_11, s91_14, s91_15, s91_16, s91_17, s91_20, s91_22, s91_25, s91_26, s91_27, s91_30, s91_33, s91_34, s91_37, s91_38, s91_39, s91_42, s91_43, s91_46, s91_47, s91_48, s91_51, s91_52, s91_55, s91_56, s91_57, s91_58, s91_59, s91_62, s91_63, s91_66, s91_67, s91_70, s91_73, s91_74, s91_77, s91_78, s91_79, s91_80, s91_83, s91_84, s91_87, s91_88, ex_gf_i h8, List.getElem?_cons_zero, List.getElem?_cons_succ, Option.bind_some, Option.toList_some, Option.toList_none, List.cons_append, List.nil_append, not_true_eq_false, if_false, if_true]
      | some N =>
        obtain ⟨h0, h1⟩ := N1.2 N hw
        subst h0
        by_cases b : N ≤ 2 ^ 63
        · obtain ⟨b1, b2⟩ := h1.1 b
          subst b1
          subst b2
          have tn := ng_toInt b
          have tM : (-M).toInt = -M.toInt := by
            have := M.toInt_lt
            rw [Int64.toInt_neg, Int.bmod_eq_of_le (by omega) (by omega)]
          have W2 : isWo (w.set 8 (wo L (nI S.length) (nI (wF S p)) (nI (wT S p)) (nI (sgS S (wF S p))) 1 0 (ng N) (-(ng N)))) L S p (-(ng N)) := w_setV h8 hN
          have g8 : (w.set 8 (wo L (nI S.length) (nI (wF S p)) (nI (wT S p)) (nI (sgS S (wF S p))) 1 0 (ng N) (-(ng N))))[8]? = some (wo L (nI S.length) (nI (wF S p)) (nI (wT S p)) (nI (sgS S (wF S p))) 1 0 (ng N) (-(ng N))) := ex_set_s h8
          by_cases g : -M ≤ ng N
          · have g1 : ¬ lg_cmp (ng N) (-M) < 0 := by
              have := (lg_cmp_ge (ng N) (-M)).mpr g
              exact fun y => by
                rw [Int32.le_iff_toInt_le] at this
                rw [Int32.lt_iff_toInt_lt] at y
                omega
            rw [Int64.le_iff_toInt_le, tM, tn] at g
            have hM2 := M.toInt_lt
            have tv := ngN_toInt (N := N) (by omega)
            have er : (match some N with | some N => if N < 2 ^ 63 then some (-(ng N)) else none | none => none) = some (-(ng N)) := if_pos (by omega)
            rw [er]
            refine ⟨_, -(ng N), 1, ?_, fr8_set, W2, Or.inl ⟨rfl, rfl, by rw [Int64.le_iff_toInt_le, tv]; omega, by rw [Int64.le_iff_toInt_le, tv]; omega⟩⟩
            simp (disch := first | assumption | decide) only [s91_0, s91_1, s91_4, s91_7, s91_8, s91_11, s91_14, s91_15, s91_16, s91_17, s91_20, s91_22, s91_25, s91_26, s91_27, s91_30, s91_33, s91_34, s91_37, s91_38, s91_39, s91_42, s91_43, s91_46, s91_47, s91_48, s91_51, s91_52, s91_55, s91_56, s91_57, s91_58, s91_59, s91_62, s91_63, s91_66, s91_67, s91_70, s91_73, s91_74, s91_77, s91_78, s91_79, s91_80, s91_83, s91_84, s91_87, s91_88, ex_gf_i h8, List.getElem?_cons_zero, List.getElem?_cons_succ, Option.bind_some, Option.toList_some, Option.toList_none, List.cons_append, List.nil_append, not_true_eq_false, if_false, if_true, if_neg n1, if_pos e45, wp8 h8, ex_gf_i g8, if_neg s0, if_neg g1]
          · have g1 : lg_cmp (ng N) (-M) < 0 := by
              have h : ¬ 0 ≤ lg_cmp (ng N) (-M) := fun y => g ((lg_cmp_ge (ng N) (-M)).mp y)
              rw [Int32.le_iff_toInt_le] at h
              rw [Int32.lt_iff_toInt_lt]
              omega
            rw [Int64.le_iff_toInt_le, tM, tn] at g
            refine ⟨_, -(ng N), 0, ?_, fr8_set, W2, Or.inr ⟨rfl, fun u hu => ?_⟩⟩
            · simp (disch := first | assumption | decide) only [s91_0, s91_1, s91_4, s91_7, s91_8, s91_11, s91_14, s91_15, s91_16, s91_17, s91_20, s91_22, s91_25, s91_26, s91_27, s91_30, s91_33, s91_34, s91_37, s91_38, s91_39, s91_42, s91_43, s91_46, s91_47, s91_48, s91_51, s91_52, s91_55, s91_56, s91_57, s91_58, s91_59, s91_62, s91_63, s91_66, s91_67, s91_70, s91_73, s91_74, s91_77, s91_78, s91_79, s91_80, s91_83, s91_84, s91_87, s91_88, ex_gf_i h8, List.getElem?_cons_zero, List.getElem?_cons_succ, Option.bind_some, Option.toList_some, Option.toList_none, List.cons_append, List.nil_append, not_true_eq_false, if_false, if_true, if_neg n1, if_pos e45, wp8 h8, ex_gf_i g8, if_neg s0, if_pos g1]
            · by_cases n63 : N < 2 ^ 63
              · rw [show (match some N with | some N => if N < 2 ^ 63 then some (-(ng N)) else none | none => none) = some (-(ng N)) from if_pos n63] at hu
                cases hu
                rw [Int64.le_iff_toInt_le, Int64.le_iff_toInt_le, ngN_toInt n63]
                omega
              · rw [show (match some N with | some N => if N < 2 ^ 63 then some (-(ng N)) else none | none => none) = none from if_neg n63] at hu
                cases hu
        · have b1 := h1.2 b
          subst b1
          have er : (match some N with | some N => if N < 2 ^ 63 then some (-(ng N)) else none | none => none) = none := if_neg (by omega)
          refine ⟨w, v, 0, ?_, fr8_id, W0, Or.inr ⟨rfl, fun u hu => ?_⟩⟩
          · simp (disch := first | assumption | decide) only [s91_0, s91_1, s91_4, s91_7, s91_8, s91_11, s91_14, s91_15, s91_16, s91_17, s91_20, s91_22, s91_25, s91_26, s91_27, s91_30, s91_33, s91_34, s91_37, s91_38, s91_39, s91_42, s91_43, s91_46, s91_47, s91_48, s91_51, s91_52, s91_55, s91_56, s91_57, s91_58, s91_59, s91_62, s91_63, s91_66, s91_67, s91_70, s91_73, s91_74, s91_77, s91_78, s91_79, s91_80, s91_83, s91_84, s91_87, s91_88, ex_gf_i h8, List.getElem?_cons_zero, List.getElem?_cons_succ, Option.bind_some, Option.toList_some, Option.toList_none, List.cons_append, List.nil_append, not_true_eq_false, if_false, if_true, if_neg n1]
          · rw [er] at hu
            cases hu
    · have sn : ¬ nI (sgS S (wF S p)) = 0 := nI_ne0 (by omega) (by omega)
      have nn : numW S (wF S p) (wT S p) = none := numW_no (by
        unfold sgS at c0
        split at c0
        · omega
        · exact absurd rfl c0)
      rw [nn]
      by_cases c1 : hn = 0
      · subst c1
        refine ⟨w, v, 0, ?_, fr8_id, W0, Or.inr ⟨rfl, fun u z => by cases z⟩⟩
        simp (disch := first | assumption | decide) only [s91_0, s91_1, s91_4, s91_7, s91_8, s91_11, s91_14, s91_15, s91_16, s91_17, s91_20, s91_22, s91_25, s91_26, s91_27, s91_30, s91_33, s91_34, s91_37, s91_38, s91_39, s91_42, s91_43, s91_46, s91_47, s91_48, s91_51, s91_52, s91_55, s91_56, s91_57, s91_58, s91_59, s91_62, s91_63, s91_66, s91_67, s91_70, s91_73, s91_74, s91_77, s91_78, s91_79, s91_80, s91_83, s91_84, s91_87, s91_88, ex_gf_i h8, List.getElem?_cons_zero, List.getElem?_cons_succ, Option.bind_some, Option.toList_some, Option.toList_none, List.cons_append, List.nil_append, not_true_eq_false, if_false, if_true]
      · by_cases c2 : bl = 0
        · subst c2
          have W2 : isWo (w.set 8 (wo L (nI S.length) (nI (wF S p)) (nI (wT S p)) (nI (sgS S (wF S p))) hn 0 ls (-ls))) L S p (-ls) := w_setV h8 hN
          have g8 : (w.set 8 (wo L (nI S.length) (nI (wF S p)) (nI (wT S p)) (nI (sgS S (wF S p))) hn 0 ls (-ls)))[8]? = some (wo L (nI S.length) (nI (wF S p)) (nI (wT S p)) (nI (sgS S (wF S p))) hn 0 ls (-ls)) := ex_set_s h8
          refine ⟨_, -ls, 0, ?_, fr8_set, W2, Or.inr ⟨rfl, fun u z => by cases z⟩⟩
          simp (disch := first | assumption | decide) only [s91_0, s91_1, s91_4, s91_7, s91_8, s91_11, s91_14, s91_15, s91_16, s91_17, s91_20, s91_22, s91_25, s91_26, s91_27, s91_30, s91_33, s91_34, s91_37, s91_38, s91_39, s91_42, s91_43, s91_46, s91_47, s91_48, s91_51, s91_52, s91_55, s91_56, s91_57, s91_58, s91_59, s91_62, s91_63, s91_66, s91_67, s91_70, s91_73, s91_74, s91_77, s91_78, s91_79, s91_80, s91_83, s91_84, s91_87, s91_88, ex_gf_i h8, List.getElem?_cons_zero, List.getElem?_cons_succ, Option.bind_some, Option.toList_some, Option.toList_none, List.cons_append, List.nil_append, not_true_eq_false, if_false, if_true, if_neg c1, if_pos e45, wp8 h8, ex_gf_i g8, if_pos sn]
        · refine ⟨w, v, 0, ?_, fr8_id, W0, Or.inr ⟨rfl, fun u z => by cases z⟩⟩
          simp (disch := first | assumption | decide) only [s91_0, s91_1, s91_4, s91_7, s91_8, s91_11, s91_14, s91_15, s91_16, s91_17, s91_20, s91_22, s91_25, s91_26, s91_27, s91_30, s91_33, s91_34, s91_37, s91_38, s91_39, s91_42, s91_43, s91_46, s91_47, s91_48, s91_51, s91_52, s91_55, s91_56, s91_57, s91_58, s91_59, s91_62, s91_63, s91_66, s91_67, s91_70, s91_73, s91_74, s91_77, s91_78, s91_79, s91_80, s91_83, s91_84, s91_87, s91_88, ex_gf_i h8, List.getElem?_cons_zero, List.getElem?_cons_succ, Option.bind_some, Option.toList_some, Option.toList_none, List.cons_append, List.nil_append, not_true_eq_false, if_false, if_true, if_neg c1, if_neg c2]
end WORDS4
