/-! the other object's numbers, bare bytes and names -/
theorem dv10p {r : Int64} {N : Nat} (h : r.toInt = (N : Int)) : (r / 10).toInt = ((N / 10 : Nat) : Int) := by
  have e : (10 : Int64).toInt = 10 := rfl
  rw [Jvm.Kit.i64_div (by rw [e]; omega), h, e]
  rfl
theorem rm10p {r : Int64} {N : Nat} (h : r.toInt = (N : Int)) : (r - r / 10 * 10).toInt32.toInt = ((N % 10 : Nat) : Int) := by
  have e : (10 : Int64).toInt = 10 := rfl
  have b1 := r.le_toInt
  have b2 := r.toInt_lt
  have m : (r / 10 * 10).toInt = ((N / 10 * 10 : Nat) : Int) := by
    rw [Int64.toInt_mul, dv10p h, e]
    rw [Int.bmod_eq_of_le (by omega) (by omega)]
    omega
  have m2 : (r - r / 10 * 10).toInt = ((N % 10 : Nat) : Int) := by
    rw [Int64.toInt_sub, m, h, Int.bmod_eq_of_le (by omega) (by omega)]
    omega
  rw [Jvm.Kit.i32_of_i64 (by omega) (by omega), m2]
theorem dgAbs {r : Int64} {N : Nat} (h : r.toInt = (N : Int) ∨ r.toInt = -(N : Int)) : (0 ≤ (r - r / 10 * 10).toInt32 ∧ (r - r / 10 * 10).toInt32 = nI (N % 10)) ∨ (¬ 0 ≤ (r - r / 10 * 10).toInt32 ∧ -(r - r / 10 * 10).toInt32 = nI (N % 10)) := by
  have z : (0 : Int32).toInt = 0 := rfl
  rcases h with h | h
  · have e := rm10p h
    refine Or.inl ⟨by rw [Int32.le_iff_toInt_le, e, z]; omega, ?_⟩
    apply Int32.toInt_inj.mp
    rw [e, nI_toInt (by omega)]
  · have e := rm10i h
    by_cases c : N % 10 = 0
    · refine Or.inl ⟨by rw [Int32.le_iff_toInt_le, e, z]; omega, ?_⟩
      apply Int32.toInt_inj.mp
      rw [e, nI_toInt (by omega)]
      omega
    · refine Or.inr ⟨by rw [Int32.le_iff_toInt_le, e, z]; omega, ?_⟩
      apply Int32.toInt_inj.mp
      rw [Int32.toInt_neg, e, nI_toInt (by omega), Int.bmod_eq_of_le (by omega) (by omega)]
      omega
theorem dvAbs {r : Int64} {N : Nat} (h : r.toInt = (N : Int) ∨ r.toInt = -(N : Int)) : (r / 10).toInt = ((N / 10 : Nat) : Int) ∨ (r / 10).toInt = -((N / 10 : Nat) : Int) := by
  rcases h with h | h
  · exact Or.inl (dv10p h)
  · exact Or.inr (dv10 h)
section TELL2
variable {X : Option (List Int32)} {w0 w : ex_W} {m : Nat → Int32} {v : Int64} {t : List Nat} {ds bg ln bs : List Int32} {B : List Nat}
theorem tx_num {ds2 : List Int32} (S : isTx w0 w m v t ds bg ln) (h : ds2.length = 20) : isTx w0 (w.set 38 (.inr (0, ds2))) m v t ds2 bg ln := by
  obtain ⟨s1, s2, s3, ⟨xs, x1, x2, x3⟩, d1, d2, s6, s7, s8, s9⟩ := S
  exact ⟨by rw [List.length_set]; exact s1, fun j a b => by rw [List.getElem?_set_ne (by omega)]; exact s2 j a b, ex_set_o (by decide) s3, ⟨xs, ex_set_o (by decide) x1, x2, x3⟩, ex_set_s d1, h, ex_set_o (by decide) s6, s7, ex_set_o (by decide) s8, s9⟩
theorem getD_app {l : List Nat} {c j : Nat} (h : j < l.length) : (l ++ [c]).getD j 0 = l.getD j 0 := by
  rw [List.getD_eq_getElem?_getD, List.getD_eq_getElem?_getD, List.getElem?_append_left h]
theorem getD_last {l : List Nat} {c : Nat} : (l ++ [c]).getD l.length 0 = c := by
  rw [List.getD_eq_getElem?_getD, List.getElem?_append_right (Nat.le_refl _), Nat.sub_self]
  rfl
/-- one digit more -/
theorem y_oneDig {r : Int64} {N i : Nat} (S : isTx w0 w m v t ds bg ln) (hr : r.toInt = (N : Int) ∨ r.toInt = -(N : Int)) (hi : i < 20) : ex_go X 110 28 [(0, .ref 32), (3, .int (nI i)), (4, .long r)] [] w = ex_go X 110 17 [(0, .ref 32), (3, .int (nI (i + 1))), (4, .long (r / 10))] [] (w.set 38 (.inr (0, ds.set i (nI (N % 10))))) := by
  have g : ex_gf w 32 8 10 = some (.ref 38) := (ex_gf_i S.2.2.1).trans mo_10
  have z10 : ¬ (10 : Int64) = 0 := by decide
  have as := ex_as_i (kd := 0) (n := i) (x := nI (N % 10)) S.2.2.2.2.1 (by have := S.2.2.2.2.2.1; omega) (by have := S.2.2.2.2.2.1; omega)
  rcases dgAbs hr with ⟨c, e⟩ | ⟨c, e⟩
  · rw [e] at c
    simp (disch := first | assumption | decide) only [s110_28, s110_30, s110_33, s110_34, s110_35, s110_37, s110_38, s110_41, s110_42, s110_44, s110_47, s110_49, s110_50, s110_53, s110_55, s110_56, s110_58, s110_61, s110_62, s110_64, s110_67, g, List.getElem?_cons_zero, List.getElem?_cons_succ, Option.bind_some, Option.toList_some, Option.toList_none, List.cons_append, List.nil_append, e, if_pos c, as, nI_1]
  · simp (disch := first | assumption | decide) only [s110_28, s110_30, s110_33, s110_34, s110_35, s110_37, s110_38, s110_41, s110_42, s110_44, s110_47, s110_49, s110_50, s110_53, s110_55, s110_56, s110_58, s110_61, s110_62, s110_64, s110_67, g, List.getElem?_cons_zero, List.getElem?_cons_succ, Option.bind_some, Option.toList_some, Option.toList_none, List.cons_append, List.nil_append, if_neg c, e, as, nI_1]
theorem y_digLoop : ∀ (k i N : Nat) (r : Int64) (D : List Nat) (ds : List Int32) (w : ex_W), i + k = 19 → 1 ≤ i → (r.toInt = (N : Int) ∨ r.toInt = -(N : Int)) → N < 10 ^ k → isTx w0 w m v t ds bg ln → D.length = i → (∀ j, j < i → 48 + ds.getD j 0 = nI (D.getD j 0)) → ∃ (ds2 : List Int32) (w2 : ex_W), isTx w0 w2 m v t ds2 bg ln ∧ (∀ j, j < (D ++ dgN k N).length → 48 + ds2.getD j 0 = nI ((D ++ dgN k N).getD j 0)) ∧ ex_go X 110 17 [(0, .ref 32), (3, .int (nI i)), (4, .long r)] [] w = ex_go X 110 70 [(0, .ref 32), (3, .int (nI (D ++ dgN k N).length))] [] w2 := by
  intro k
  induction k with
  | zero =>
    intro i N r D ds w hi h1 hr hN S hD hd
    have e0 : ¬ nI i = 0 := nI_ne0 (by omega) (by omega)
    have ec : lg_cmp r 0 = 0 := (lg_cmp_eq r 0).mpr (by rw [l0_i]; omega)
    rw [dgN, List.append_nil]
    refine ⟨ds, w, S, fun j hj => hd j (by omega), ?_⟩
    simp (disch := first | assumption | decide) only [s110_17, s110_18, s110_21, s110_23, s110_24, s110_25, if_neg e0, ec, if_true]
    rw [hD]
  | succ k ih =>
    intro i N r D ds w hi h1 hr hN S hD hd
    have e0 : ¬ nI i = 0 := nI_ne0 (by omega) (by omega)
    by_cases c : N = 0
    · have ec : lg_cmp r 0 = 0 := (lg_cmp_eq r 0).mpr (by rw [l0_i]; omega)
      rw [dgN, if_pos c, List.append_nil]
      refine ⟨ds, w, S, fun j hj => hd j (by omega), ?_⟩
      simp (disch := first | assumption | decide) only [s110_17, s110_18, s110_21, s110_23, s110_24, s110_25, if_neg e0, ec, if_true]
      rw [hD]
    · have ec : ¬ lg_cmp r 0 = 0 := fun z => by
        have := (lg_cmp_eq r 0).mp z
        rw [l0_i] at this
        omega
      have hl := S.2.2.2.2.2.1
      have od := y_oneDig (X := X) (i := i) S hr (by omega)
      obtain ⟨ds2, w2, a1, a2, a3⟩ := ih (i + 1) (N / 10) (r / 10) (D ++ [48 + N % 10]) (ds.set i (nI (N % 10))) _ (by omega) (by omega) (dvAbs hr) (by
        rw [Nat.pow_succ] at hN
        omega) (tx_num S (by rw [List.length_set]; exact hl)) (by rw [List.length_append, List.length_singleton]; omega) (by
        intro j hj
        rw [set_get (by omega)]
        by_cases q : i = j
        · subst q
          rw [if_pos rfl, ← hD, getD_last]
          exact nI_add 48 _
        · rw [if_neg q, getD_app (by omega)]
          exact hd j (by omega))
      have ea : D ++ [48 + N % 10] ++ dgN k (N / 10) = D ++ dgN (k + 1) N := by
        rw [dgN, if_neg c, List.append_assoc]
        rfl
      rw [ea] at a2 a3
      refine ⟨ds2, w2, a1, a2, ?_⟩
      rw [← a3, ← od]
      simp (disch := first | assumption | decide) only [s110_17, s110_18, s110_21, s110_23, s110_24, s110_25, if_neg e0, if_neg ec]
theorem y_outLoop {D : List Nat} (hd : ∀ j, j < D.length → 48 + ds.getD j 0 = nI (D.getD j 0)) (h19 : D.length ≤ 19) : ∀ (k : Nat) (t : List Nat) (w : ex_W), k ≤ D.length → isTx w0 w m v t ds bg ln → t.length + k ≤ 1000 → ∃ w2, ex_go X 110 75 [(0, .ref 32), (6, .int (nI k - 1))] [] w = some (none, w2) ∧ isTx w0 w2 m v (t ++ (D.take k).reverse) ds bg ln := by
  intro k
  induction k with
  | zero =>
    intro t w hk S hl
    have e : nI 0 - 1 < 0 := by decide
    refine ⟨w, ?_, by rw [List.take_zero, List.reverse_nil, List.append_nil]; exact S⟩
    simp (disch := first | assumption | decide) only [s110_75, s110_77, s110_80, s110_81, s110_83, s110_84, s110_87, s110_89, s110_90, s110_91, s110_94, s110_97, s110_100, if_pos e]
  | succ k ih =>
    intro t w hk S hl
    rw [nI_pred]
    have e : ¬ nI k < 0 := nI_pos (by omega)
    obtain ⟨w2, h1, h2⟩ := y_say (X := X) (c := D.getD k 0) S (by omega)
    obtain ⟨w3, h3, h4⟩ := ih _ w2 (by omega) h2 (by rw [List.length_append, List.length_singleton]; omega)
    refine ⟨w3, ?_, ?_⟩
    · have rc := tx_rc S
      have g : ex_gf w 32 8 10 = some (.ref 38) := (ex_gf_i S.2.2.1).trans mo_10
      have al := ex_al_i (kd := 0) (n := k) S.2.2.2.2.1 (by have := S.2.2.2.2.2.1; omega) (by have := S.2.2.2.2.2.1; omega)
      have em : nI k + (-1) = nI k - 1 := by rw [Int32.sub_eq_add_neg]
      rw [s110_75]
      simp (disch := first | assumption | decide) only [s110_77, s110_80, s110_81, s110_83, s110_84, s110_87, s110_89, s110_90, s110_91, s110_94, s110_97, if_neg e, List.getElem?_cons_zero, List.getElem?_cons_succ, Option.bind_some, Option.toList_some, Option.toList_none, List.cons_append, List.nil_append, g, al, hd k (by omega), h1, em, h3]
    · have et : D.take (k + 1) = D.take k ++ [D.getD k 0] := by
        rw [List.take_add_one, List.getElem?_eq_getElem (by omega), List.getD_eq_getElem?_getD, List.getElem?_eq_getElem (by omega)]
        rfl
      rw [et, List.reverse_append]
      simp only [List.append_assoc, List.cons_append, List.nil_append, List.reverse_cons, List.reverse_nil] at h4 ⊢
      exact h4
theorem y_number {x : Int64} (S : isTx w0 w m v t ds bg ln) (hl : t.length + (numN x).length ≤ 1000) : ∃ ds2 w2, ex_call X 110 [.ref 32, .long x] w = some (none, w2) ∧ isTx w0 w2 m v (t ++ numN x) ds2 bg ln := by
  have b1 := x.le_toInt
  have b2 := x.toInt_lt
  have rest : ∀ (t : List Nat) (w : ex_W), isTx w0 w m v t ds bg ln → t.length + (decN x.toInt.natAbs).length ≤ 1000 → ∃ ds2 w2, ex_go X 110 17 [(0, .ref 32), (3, .int 0), (4, .long x)] [] w = some (none, w2) ∧ isTx w0 w2 m v (t ++ decN x.toInt.natAbs) ds2 bg ln := by
    intro t w S hl
    have hr : x.toInt = ((x.toInt.natAbs : Nat) : Int) ∨ x.toInt = -((x.toInt.natAbs : Nat) : Int) := by omega
    have od := y_oneDig (X := X) (i := 0) S hr (by omega)
    have od : ex_go X 110 28 [(0, .ref 32), (3, .int 0), (4, .long x)] [] w = _ := od
    have hd20 := S.2.2.2.2.2.1
    obtain ⟨ds2, w2, a1, a2, a3⟩ := y_digLoop (X := X) 18 1 (x.toInt.natAbs / 10) (x / 10) [48 + x.toInt.natAbs % 10] _ _ (by omega) (by omega) (dvAbs hr) (by omega) (tx_num (ds2 := ds.set 0 (nI (x.toInt.natAbs % 10))) S (by rw [List.length_set]; exact hd20)) rfl (by
      intro j hj
      rw [set_get (by omega), if_pos (by omega), show j = 0 by omega]
      exact nI_add 48 _)
    have dl : ([48 + x.toInt.natAbs % 10] ++ dgN 18 (x.toInt.natAbs / 10)) = (48 + x.toInt.natAbs % 10) :: dgN 18 (x.toInt.natAbs / 10) := rfl
    rw [dl] at a2 a3
    have dn : ((48 + x.toInt.natAbs % 10) :: dgN 18 (x.toInt.natAbs / 10)).length = (decN x.toInt.natAbs).length := by unfold decN; rw [List.length_reverse]
    have d19 := decN_len x.toInt.natAbs
    obtain ⟨w4, a4, S4⟩ := y_outLoop (X := X) a2 (by omega) ((48 + x.toInt.natAbs % 10) :: dgN 18 (x.toInt.natAbs / 10)).length t w2 (Nat.le_refl _) a1 (by omega)
    refine ⟨ds2, w4, ?_, ?_⟩
    · rw [s110_17]
      simp (disch := first | assumption | decide) only [s110_18, if_true, od, a3]
      simp (disch := first | assumption | decide) only [s110_70, s110_71, s110_72, s110_73, a4]
    · rw [List.take_length] at S4
      exact S4
  unfold numN at hl ⊢
  show ∃ ds2 w2, ex_go X 110 0 [(0, .ref 32), (1, .long x)] [] w = _ ∧ _
  by_cases c : x < 0
  · have ec : ¬ 0 ≤ lg_cmp x 0 := by rw [lg_cmp_ge]; exact lg_lt_not_le c
    rw [if_pos c] at hl ⊢
    rw [List.length_append, List.length_singleton] at hl
    obtain ⟨w1, a1, S1⟩ := y_say (X := X) (c := 45) S (by omega)
    obtain ⟨ds2, w2, a2, S2⟩ := rest _ w1 S1 (by rw [List.length_append, List.length_singleton]; omega)
    refine ⟨ds2, w2, ?_, ?_⟩
    · have a1 : ex_call X 109 [.ref 32, .int 45] w = some (none, w1) := a1
      have rc := tx_rc S
      simp (disch := first | assumption | decide) only [s110_0, s110_1, s110_2, s110_3, s110_5, s110_6, s110_7, s110_8, s110_11, s110_12, s110_14, if_neg ec, List.getElem?_cons_zero, List.getElem?_cons_succ, Option.bind_some, Option.toList_some, Option.toList_none, List.cons_append, List.nil_append, a1, a2]
    · simp only [List.append_assoc, List.cons_append, List.nil_append] at S2 ⊢
      exact S2
  · have c' : 0 ≤ x.toInt := by rw [Int64.lt_iff_toInt_lt] at c; exact Int.not_lt.mp c
    have ec : 0 ≤ lg_cmp x 0 := by rw [lg_cmp_ge, Int64.le_iff_toInt_le]; exact c'
    rw [if_neg c, List.nil_append] at hl ⊢
    obtain ⟨ds2, w2, a2, S2⟩ := rest _ w S hl
    refine ⟨ds2, w2, ?_, S2⟩
    simp (disch := first | assumption | decide) only [s110_0, s110_1, s110_2, s110_3, s110_5, s110_6, s110_7, s110_8, s110_11, s110_12, s110_14, if_pos ec, List.getElem?_cons_zero, List.getElem?_cons_succ, Option.bind_some, Option.toList_some, Option.toList_none, List.cons_append, List.nil_append, a2]
end TELL2
