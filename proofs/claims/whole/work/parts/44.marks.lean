/-! the class's marks -/
def mkS (f n : Nat) (L : List Nat) (P : Nat → Prop) (ms : List Int32) : Prop := ∀ j, j < n → (f + j ∈ L → P j → ms.getD j 0 = -1) ∧ (f + j ∈ L → ¬ P j → ms.getD j 0 = -2) ∧ (¬ f + j ∈ L → ms.getD j 0 = -3)
section MARKS
variable {X : Option (List Int32)} {w0 w : ex_W} {t D : List Nat} {pl : Nat} {ms : List Int32} {q a : Nat} {us : List Int32} {B : List Nat}
theorem sc_marks {ms2 : List Int32} (S : isSc w0 w t D pl ms) (h : ms2.length = 120) : isSc w0 (w.set 21 (.inr (0, ms2))) t D pl ms2 := by
  obtain ⟨s1, s2, s3, ⟨xs, R, H, hx⟩, ⟨ds, Rd, Hd, hd⟩, s6, s7, s8⟩ := S
  refine ⟨by rw [List.length_set]; exact s1, fun j hj => by rw [List.getElem?_set_ne (by omega)]; exact s2 j hj, ex_set_o (by decide) s3, ⟨xs, ⟨ex_set_o (by decide) R.1, ex_set_o (by decide) R.2.1, R.2.2⟩, H, hx⟩, ⟨ds, ⟨ex_set_o (by decide) Rd.1, ex_set_o (by decide) Rd.2.1, Rd.2.2⟩, Hd, hd⟩, ex_set_o (by decide) s6, ex_set_s s7, h⟩
theorem sc_places {n : Nat} (S : isSc w0 w t D pl ms) : isSc w0 (w.set 20 (.inl (5, [.ref 21, .int (nI n)]))) t D n ms := by
  obtain ⟨s1, s2, s3, ⟨xs, R, H, hx⟩, ⟨ds, Rd, Hd, hd⟩, s6, s7, s8⟩ := S
  refine ⟨by rw [List.length_set]; exact s1, fun j hj => by rw [List.getElem?_set_ne (by omega)]; exact s2 j hj, ex_set_o (by decide) s3, ⟨xs, ⟨ex_set_o (by decide) R.1, ex_set_o (by decide) R.2.1, R.2.2⟩, H, hx⟩, ⟨ds, ⟨ex_set_o (by decide) Rd.1, ex_set_o (by decide) Rd.2.1, Rd.2.2⟩, Hd, hd⟩, ex_set_s s6, ex_set_o (by decide) s7, s8⟩
theorem sc_m0 (S : isSc w0 w t D pl ms) : ex_gf w 20 5 0 = some (.ref 21) := ex_gf_i S.2.2.2.2.2.1
theorem sc_m1 (S : isSc w0 w t D pl ms) : ex_gf w 20 5 1 = some (.int (nI pl)) := ex_gf_i S.2.2.2.2.2.1
theorem sc_mr (S : isSc w0 w t D pl ms) : ex_rc w 20 5 = true := ex_rc_o S.2.2.2.2.2.1 (by decide) (by decide)
theorem sc_ml {i : Nat} (S : isSc w0 w t D pl ms) (hi : i < 120) : ex_al w 21 0 (nI i) = some (ms.getD i 0) := ex_al_i S.2.2.2.2.2.2.1 (by have := S.2.2.2.2.2.2.2; omega) (by have := S.2.2.2.2.2.2.2; omega)
theorem sc_ms {i : Nat} {x : Int32} (S : isSc w0 w t D pl ms) (hi : i < 120) : ex_as w 21 0 (nI i) x = some (w.set 21 (.inr (0, ms.set i x))) ∧ isSc w0 (w.set 21 (.inr (0, ms.set i x))) t D pl (ms.set i x) := ⟨ex_as_i S.2.2.2.2.2.2.1 (by have := S.2.2.2.2.2.2.2; omega) (by have := S.2.2.2.2.2.2.2; omega), sc_marks S (by rw [List.length_set]; exact S.2.2.2.2.2.2.2)⟩
theorem c_startsLoop (Y : isBy w0 q a us B) {f n : Nat} (hf : f < 2 ^ 19) (hn : n ≤ 120) : ∀ (r i nx k : Nat) (ms : List Int32) (w : ex_W), i + r = n → i ≤ nx → nx ≤ n → f + n - (f + nx) ≤ k → clrN B (f + n) k (f + nx) = true → isSc w0 w t D n ms → ∃ (ms2 : List Int32) (w2 : ex_W), ex_go X 63 21 [(0, .ref 20), (1, .ref q), (2, .int (nI f)), (3, .int (nI (f + n))), (4, .int (nI nx)), (5, .int (nI i))] [] w = some (none, w2) ∧ isSc w0 w2 t D n ms2 ∧ (∀ j, j < i → ms2.getD j 0 = ms.getD j 0) ∧ ∀ j, i ≤ j → j < n → ms2.getD j 0 = if f + j ∈ stL B (f + n) k (f + nx) then -2 else -3 := by
  intro r
  induction r with
  | zero =>
    intro i nx k ms w hi h1 h2 h3 h4 S
    have e : nI n ≤ nI i := nI_le (by omega) (by omega)
    refine ⟨ms, w, ?_, S, fun j _ => rfl, fun j a b => by omega⟩
    simp (disch := first | assumption | decide) only [s63_21, s63_23, s63_24, s63_27, s63_78, sc_m1 S, List.getElem?_cons_zero, List.getElem?_cons_succ, Option.bind_some, Option.toList_some, Option.toList_none, List.cons_append, List.nil_append, if_pos e]
  | succ r ih =>
    intro i nx k ms w hi h1 h2 h3 h4 S
    have e : ¬ nI n ≤ nI i := nI_ge (by omega) (by omega)
    have hml := S.2.2.2.2.2.2.2
    by_cases c : i = nx
    · subst c
      cases k with
      | zero => omega
      | succ k =>
        obtain ⟨c1, c2, c3⟩ := clr_step h4 (by omega)
        obtain ⟨d1, d2, d3⟩ := wid_le c1
        obtain ⟨as, S1⟩ := sc_ms (i := i) (x := -2) S (by omega)
        obtain ⟨ms2, w2, a1, a2, a3, a4⟩ := ih (i + 1) (i + widN B (f + i) (f + n)) k _ _ (by omega) (by omega) (by omega) (by omega) (by rw [← Nat.add_assoc]; exact c2) S1
        refine ⟨ms2, w2, ?_, a2, fun j hj => ?_, fun j hj1 hj2 => ?_⟩
        · have nw := n_width (X := X) (p := f + i) (e := f + n) (sc_by S1 Y) Y.2.1 Y.2.2.1 (by omega) (by omega)
          have et : ¬ ¬ nI i = nI i := fun z => z rfl
          rw [s63_21]
          simp (disch := first | assumption | decide) only [s63_0, s63_1, s63_2, s63_3, s63_4, s63_5, s63_8, s63_9, s63_12, s63_15, s63_16, s63_18, s63_19, s63_23, s63_24, s63_27, s63_30, s63_31, s63_34, s63_36, s63_38, s63_40, s63_43, s63_45, s63_48, s63_50, s63_51, s63_53, s63_55, s63_58, s63_60, s63_61, s63_62, s63_64, s63_65, s63_66, s63_69, s63_70, s63_72, s63_75, s63_78, sc_m1 S, sc_m0 S, List.getElem?_cons_zero, List.getElem?_cons_succ, Option.bind_some, Option.toList_some, Option.toList_none, List.cons_append, List.nil_append, if_neg e, not_true_eq_false, if_false, as, nI_add, nw, nI_1]
          exact a1
        · rw [a3 j (by omega), set_get (by omega), if_neg (by omega)]
        · by_cases q1 : j = i
          · subst q1
            rw [a3 j (by omega), set_get (by omega), if_pos rfl, c3, if_pos List.mem_cons_self]
          · rw [a4 j (by omega) hj2, c3, ← Nat.add_assoc]
            by_cases q2 : f + j ∈ stL B (f + n) k (f + i + widN B (f + i) (f + n))
            · rw [if_pos q2, if_pos (List.mem_cons_of_mem _ q2)]
            · rw [if_neg q2, if_neg]
              intro z
              rcases List.mem_cons.mp z with z | z
              · omega
              · exact q2 z
    · have et : ¬ nI i = nI nx := fun z => c ((nI_eq (by omega) (by omega)).mp z)
      obtain ⟨as, S1⟩ := sc_ms (i := i) (x := -3) S (by omega)
      obtain ⟨ms2, w2, a1, a2, a3, a4⟩ := ih (i + 1) nx k _ _ (by omega) (by omega) (by omega) (by omega) h4 S1
      refine ⟨ms2, w2, ?_, a2, fun j hj => ?_, fun j hj1 hj2 => ?_⟩
      · rw [s63_21]
        simp (disch := first | assumption | decide) only [s63_0, s63_1, s63_2, s63_3, s63_4, s63_5, s63_8, s63_9, s63_12, s63_15, s63_16, s63_18, s63_19, s63_23, s63_24, s63_27, s63_30, s63_31, s63_34, s63_36, s63_38, s63_40, s63_43, s63_45, s63_48, s63_50, s63_51, s63_53, s63_55, s63_58, s63_60, s63_61, s63_62, s63_64, s63_65, s63_66, s63_69, s63_70, s63_72, s63_75, s63_78, sc_m1 S, sc_m0 S, List.getElem?_cons_zero, List.getElem?_cons_succ, Option.bind_some, Option.toList_some, Option.toList_none, List.cons_append, List.nil_append, if_neg e, if_pos et, as, nI_1]
        exact a1
      · rw [a3 j (by omega), set_get (by omega), if_neg (by omega)]
      · by_cases q1 : j = i
        · subst q1
          rw [a3 j (by omega), set_get (by omega), if_pos rfl, if_neg]
          intro z
          have := stL_mem _ _ _ z
          omega
        · exact a4 j (by omega) hj2
theorem c_starts (S : isSc w0 w t D pl ms) (Y : isBy w0 q a us B) {f n : Nat} (hf : f < 2 ^ 19) (hn : n ≤ 120) (hc : clrN B (f + n) 120 f = true) : ∃ (ms2 : List Int32) (w2 : ex_W), ex_call X 63 [.ref 20, .ref q, .int (nI f), .int (nI (f + n))] w = some (none, w2) ∧ isSc w0 w2 t D n ms2 ∧ mkS f n (stL B (f + n) 120 f) (hitI B f (stL B (f + n) 120 f) 0 0) ms2 := by
  have S1 := sc_places (n := n) S
  obtain ⟨ms2, w2, a1, a2, -, a4⟩ := c_startsLoop (X := X) Y hf hn n 0 0 120 ms _ (by omega) (by omega) (by omega) (by omega) hc S1
  refine ⟨ms2, w2, ?_, a2, fun j hj => ⟨fun h1 h2 => ?_, fun h1 _ => ?_, fun h1 => ?_⟩⟩
  · have g0 := sc_m0 S
    have an : ex_an w 21 = some (nI 120) := by rw [ex_an_i S.2.2.2.2.2.2.1, S.2.2.2.2.2.2.2]
    have sb : nI (f + n) - nI f = nI n := by rw [pk_sub (by omega), show f + n - f = n by omega]
    have e : ¬ nI 120 < nI n := nI_nlt hn (by decide)
    have pf := ex_pf_i (k := 1) (v := .int (nI n)) S.2.2.2.2.2.1 (show 1 < 2 by decide)
    have pf : ex_pf w 20 5 1 (.int (nI n)) = some (w.set 20 (.inl (5, [.ref 21, .int (nI n)]))) := pf
    have a1 : ex_go X 63 21 [(0, .ref 20), (1, .ref q), (2, .int (nI f)), (3, .int (nI (f + n))), (4, .int 0), (5, .int 0)] [] _ = _ := a1
    show ex_go X 63 0 [(0, .ref 20), (1, .ref q), (2, .int (nI f)), (3, .int (nI (f + n)))] [] w = _
    simp (disch := first | assumption | decide) only [s63_0, s63_1, s63_2, s63_3, s63_4, s63_5, s63_8, s63_9, s63_12, s63_15, s63_16, s63_18, s63_19, sb, g0, List.getElem?_cons_zero, List.getElem?_cons_succ, Option.bind_some, Option.toList_some, Option.toList_none, List.cons_append, List.nil_append, an, if_neg e, pf, a1]
  · rcases h2 with ⟨p, x1, x2, x3⟩ | ⟨p, x1, x2⟩
    · have := stL_mem _ _ _ x1
      omega
    · omega
  · rw [a4 j (by omega) hj, Nat.add_zero, if_pos h1]
  · rw [a4 j (by omega) hj, Nat.add_zero, if_neg h1]
theorem c_targetsOfLoop (Y : isBy w0 q a us B) {f n o : Nat} {L : List Nat} (hf : f < 2 ^ 19) (hn : n ≤ 120) (ho : o < n) : ∀ (r k : Nat) (ms : List Int32) (w : ex_W), k + r = distN B (f + o) → isSc w0 w t D n ms → mkS f n L (hitI B f L o k) ms → ∃ (ms2 : List Int32) (w2 : ex_W), ex_go X 65 30 [(0, .ref 20), (1, .ref q), (3, .int (nI o)), (5, .int (nI (distN B (f + o)))), (6, .int (nI (f + o + headN (B.getD (f + o) 0)))), (7, .int (nI k))] [] w = some (none, w2) ∧ isSc w0 w2 t D n ms2 ∧ mkS f n L (hitI B f L o (distN B (f + o))) ms2 := by
  have hd := distN_le Y.2.2.1 (f + o)
  have hh := headN_le (B.getD (f + o) 0)
  intro r
  induction r with
  | zero =>
    intro k ms w hk S Mk
    have e : nI (distN B (f + o)) ≤ nI k := nI_le (by omega) (by omega)
    have hk : k = distN B (f + o) := by omega
    refine ⟨ms, w, ?_, S, by rw [← hk]; exact Mk⟩
    simp (disch := first | assumption | decide) only [s65_30, s65_32, s65_34, s65_94, if_pos e]
  | succ r ih =>
    intro k ms w hk S Mk
    have e : ¬ nI (distN B (f + o)) ≤ nI k := nI_ge (by omega) (by omega)
    have hml := S.2.2.2.2.2.2.2
    have rB := sc_rB S Y
    have sg : ex_call X 20 [.ref q, .int (nI (f + o + headN (B.getD (f + o) 0) + 2 * k)), .int 2] w = some (some (.long (wdN B (f + o + headN (B.getD (f + o) 0) + 2 * k) 2)), w) := c_signed (X := X) (n := 2) (sc_by S Y) Y.2.1 Y.2.2.1 (by omega) (by omega) (by omega)
    have mu : (2 : Int32) * nI k = nI (2 * k) := pk_mul 2 k
    have tq : tgI B f (f + o) k = nI o + d32 B (f + o + headN (B.getD (f + o) 0) + 2 * k) := by
      unfold tgI
      rw [show f + o - f = o by omega]
    have hd : ex_go X 65 30 [(0, .ref 20), (1, .ref q), (3, .int (nI o)), (5, .int (nI (distN B (f + o)))), (6, .int (nI (f + o + headN (B.getD (f + o) 0)))), (7, .int (nI k))] [] w = ex_go X 65 54 [(0, .ref 20), (1, .ref q), (3, .int (nI o)), (5, .int (nI (distN B (f + o)))), (6, .int (nI (f + o + headN (B.getD (f + o) 0)))), (7, .int (nI k)), (8, .int (tgI B f (f + o) k))] [] w := by
      simp (disch := first | assumption | decide) only [s65_30, s65_32, s65_34, s65_37, s65_38, s65_39, s65_41, s65_42, s65_44, s65_45, s65_46, s65_47, s65_50, s65_51, s65_52, if_neg e, List.getElem?_cons_zero, List.getElem?_cons_succ, Option.bind_some, Option.toList_some, Option.toList_none, List.cons_append, List.nil_append, mu, nI_add, sg, wd2 Y.2.2.1]
      rw [tq]
    rw [hd]
    have nx : ∀ w : ex_W, ex_go X 65 88 [(0, .ref 20), (1, .ref q), (3, .int (nI o)), (5, .int (nI (distN B (f + o)))), (6, .int (nI (f + o + headN (B.getD (f + o) 0)))), (7, .int (nI k))] [] w = ex_go X 65 30 [(0, .ref 20), (1, .ref q), (3, .int (nI o)), (5, .int (nI (distN B (f + o)))), (6, .int (nI (f + o + headN (B.getD (f + o) 0)))), (7, .int (nI (k + 1)))] [] w := by
      intro w
      simp (disch := first | assumption | decide) only [s65_88, s65_91, nI_1]
    -- no mark more
    have same : (∀ j, j < n → f + j ∈ L → tgI B f (f + o) k = nI j → hitI B f L o k j) → mkS f n L (hitI B f L o (k + 1)) ms := by
      intro hz j hj
      refine ⟨fun h1 h2 => ?_, fun h1 h2 => ?_, (Mk j hj).2.2⟩
      · rw [hitI_step] at h2
        rcases h2 with h2 | h2
        · exact (Mk j hj).1 h1 h2
        · exact (Mk j hj).1 h1 (hz j hj h1 h2)
      · exact (Mk j hj).2.1 h1 (fun z => h2 (hitI_step.mpr (Or.inl z)))
    rcases pk_ix (tgI B f (f + o) k) (n := n) (by omega) with c | c | ⟨z, hz, c⟩
    · obtain ⟨ms2, w2, a1, a2, a3⟩ := ih (k + 1) ms w (by omega) S (same (fun j hj _ h => by
        rw [h] at c
        exact absurd c (nI_pos (by omega))))
      refine ⟨ms2, w2, ?_, a2, a3⟩
      rw [← a1, ← nx]
      simp (disch := first | assumption | decide) only [s65_54, s65_56, if_pos c]
    · have c0 : ¬ tgI B f (f + o) k < 0 := by
        intro z
        rw [Int32.lt_iff_toInt_lt] at z
        rw [Int32.le_iff_toInt_le, nI_toInt (by omega)] at c
        have : (0 : Int32).toInt = 0 := rfl
        omega
      obtain ⟨ms2, w2, a1, a2, a3⟩ := ih (k + 1) ms w (by omega) S (same (fun j hj _ h => by
        rw [h] at c
        exact absurd c (nI_ge hj (by omega))))
      refine ⟨ms2, w2, ?_, a2, a3⟩
      rw [← a1, ← nx]
      simp (disch := first | assumption | decide) only [s65_54, s65_56, s65_59, s65_61, s65_62, s65_65, if_neg c0, sc_m1 S, List.getElem?_cons_zero, List.getElem?_cons_succ, Option.bind_some, Option.toList_some, Option.toList_none, List.cons_append, List.nil_append, if_pos c]
    · have c0 : ¬ nI z < 0 := nI_pos (by omega)
      have c1 : ¬ nI n ≤ nI z := nI_ge hz (by omega)
      have lz := sc_ml (i := z) S (by omega)
      have hd2 : ex_go X 65 54 [(0, .ref 20), (1, .ref q), (3, .int (nI o)), (5, .int (nI (distN B (f + o)))), (6, .int (nI (f + o + headN (B.getD (f + o) 0)))), (7, .int (nI k)), (8, .int (tgI B f (f + o) k))] [] w = if ¬ ms.getD z 0 = -2 then ex_go X 65 88 [(0, .ref 20), (1, .ref q), (3, .int (nI o)), (5, .int (nI (distN B (f + o)))), (6, .int (nI (f + o + headN (B.getD (f + o) 0)))), (7, .int (nI k))] [] w else ex_go X 65 80 [(0, .ref 20), (1, .ref q), (3, .int (nI o)), (5, .int (nI (distN B (f + o)))), (6, .int (nI (f + o + headN (B.getD (f + o) 0)))), (7, .int (nI k)), (8, .int (nI z))] [] w := by
        rw [c]
        simp (disch := first | assumption | decide) only [s65_54, s65_56, s65_59, s65_61, s65_62, s65_65, s65_68, s65_69, s65_72, s65_74, s65_75, s65_77, if_neg c0, sc_m1 S, List.getElem?_cons_zero, List.getElem?_cons_succ, Option.bind_some, Option.toList_some, Option.toList_none, List.cons_append, List.nil_append, if_neg c1, sc_m0 S, lz]
      rw [hd2]
      by_cases hL : f + z ∈ L ∧ ¬ hitI B f L o k z
      · have e2 : ms.getD z 0 = -2 := (Mk z hz).2.1 hL.1 hL.2
        obtain ⟨as, S1⟩ := sc_ms (i := z) (x := -1) S (by omega)
        obtain ⟨ms2, w2, a1, a2, a3⟩ := ih (k + 1) _ _ (by omega) S1 (by
          intro j hj
          rw [set_get (by omega)]
          by_cases qz : z = j
          · subst qz
            rw [if_pos rfl]
            exact ⟨fun _ _ => rfl, fun _ h2 => absurd (hitI_step.mpr (Or.inr c)) h2, fun h1 => absurd hL.1 h1⟩
          · rw [if_neg qz]
            refine ⟨fun h1 h2 => ?_, fun h1 h2 => (Mk j hj).2.1 h1 (fun y => h2 (hitI_step.mpr (Or.inl y))), (Mk j hj).2.2⟩
            rw [hitI_step] at h2
            rcases h2 with h2 | h2
            · exact (Mk j hj).1 h1 h2
            · rw [c] at h2
              exact absurd ((nI_eq (by omega) (by omega)).mp h2) qz)
        refine ⟨ms2, w2, ?_, a2, a3⟩
        rw [← a1, ← nx, if_neg (fun y => y e2)]
        simp (disch := first | assumption | decide) only [s65_80, s65_81, s65_84, s65_86, s65_87, sc_m0 S, List.getElem?_cons_zero, List.getElem?_cons_succ, Option.bind_some, Option.toList_some, Option.toList_none, List.cons_append, List.nil_append, as]
      · have e2 : ¬ ms.getD z 0 = -2 := by
          by_cases h1 : f + z ∈ L
          · by_cases h2 : hitI B f L o k z
            · rw [(Mk z hz).1 h1 h2]
              decide
            · exact absurd ⟨h1, h2⟩ hL
          · rw [(Mk z hz).2.2 h1]
            decide
        obtain ⟨ms2, w2, a1, a2, a3⟩ := ih (k + 1) ms w (by omega) S (same (fun j hj h1 h => by
          rw [c] at h
          have hjz := (nI_eq (by omega) (by omega)).mp h
          subst hjz
          exact Classical.byContradiction fun y => hL ⟨h1, y⟩))
        refine ⟨ms2, w2, ?_, a2, a3⟩
        rw [← a1, ← nx, if_pos e2]
theorem c_targetsOf (Y : isBy w0 q a us B) {f n o : Nat} {L : List Nat} (hf : f < 2 ^ 19) (hn : n ≤ 120) (ho : o < n) (S : isSc w0 w t D n ms) (Mk : mkS f n L (hitI B f L o 0) ms) : ∃ (ms2 : List Int32) (w2 : ex_W), ex_call X 65 [.ref 20, .ref q, .int (nI f), .int (nI o)] w = some (none, w2) ∧ isSc w0 w2 t D n ms2 ∧ mkS f n L (hitI B f L o (distN B (f + o))) ms2 := by
  obtain ⟨ms2, w2, a1, a2, a3⟩ := c_targetsOfLoop (X := X) Y hf hn ho (distN B (f + o)) 0 ms w (by omega) S Mk
  refine ⟨ms2, w2, ?_, a2, a3⟩
  have rB := sc_rB S Y
  have hb := Y.2.2.1 (f + o)
  have cb := c_byte (X := X) (i := f + o) S Y (by omega)
  have dn := n_dist (X := X) (p := f + o) (sc_by S Y) Y.2.1 Y.2.2.1 (by omega)
  have hd := n_headOf (X := X) (w := w) (x := B.getD (f + o) 0) (by omega)
  have a1 : ex_go X 65 30 [(0, .ref 20), (1, .ref q), (3, .int (nI o)), (5, .int (nI (distN B (f + o)))), (6, .int (nI (f + o + headN (B.getD (f + o) 0)))), (7, .int 0)] [] w = _ := a1
  show ex_go X 65 0 [(0, .ref 20), (1, .ref q), (2, .int (nI f)), (3, .int (nI o))] [] w = _
  simp (disch := first | assumption | decide) only [s65_0, s65_1, s65_2, s65_3, s65_5, s65_6, s65_8, s65_11, s65_13, s65_15, s65_16, s65_18, s65_21, s65_24, s65_25, s65_27, s65_28, nI_add, dn, List.getElem?_cons_zero, List.getElem?_cons_succ, Option.bind_some, Option.toList_some, Option.toList_none, List.cons_append, List.nil_append, cb, hd, a1]
theorem c_targetsLoop (Y : isBy w0 q a us B) {f n : Nat} {L : List Nat} (hf : f < 2 ^ 19) (hn : n ≤ 120) : ∀ (r i : Nat) (ms : List Int32) (w : ex_W), i + r = n → isSc w0 w t D n ms → mkS f n L (hitI B f L i 0) ms → ∃ (ms2 : List Int32) (w2 : ex_W), ex_go X 64 2 [(0, .ref 20), (1, .ref q), (2, .int (nI f)), (3, .int (nI i))] [] w = some (none, w2) ∧ isSc w0 w2 t D n ms2 ∧ mkS f n L (hitI B f L n 0) ms2 := by
  intro r
  induction r with
  | zero =>
    intro i ms w hi S Mk
    have e : nI n ≤ nI i := nI_le (by omega) (by omega)
    have hi : i = n := by omega
    refine ⟨ms, w, ?_, S, by rw [hi] at Mk; exact Mk⟩
    simp (disch := first | assumption | decide) only [s64_0, s64_1, s64_2, s64_3, s64_4, s64_7, s64_10, s64_11, s64_14, s64_15, s64_16, s64_18, s64_21, s64_22, s64_23, s64_24, s64_25, s64_28, s64_31, s64_34, sc_m1 S, List.getElem?_cons_zero, List.getElem?_cons_succ, Option.bind_some, Option.toList_some, Option.toList_none, List.cons_append, List.nil_append, if_pos e]
  | succ r ih =>
    intro i ms w hi S Mk
    have e : ¬ nI n ≤ nI i := nI_ge (by omega) (by omega)
    have lz := sc_ml (i := i) S (by omega)
    have mr := sc_mr S
    by_cases hL : f + i ∈ L
    · have e2 : ¬ ms.getD i 0 = -3 := by
        by_cases h2 : hitI B f L i 0 i
        · rw [(Mk i (by omega)).1 hL h2]
          decide
        · rw [(Mk i (by omega)).2.1 hL h2]
          decide
      obtain ⟨ms2, w2, a1, a2, a3⟩ := c_targetsOf (X := X) (o := i) Y hf hn (by omega) S Mk
      obtain ⟨ms3, w3, b1, b2, b3⟩ := ih (i + 1) ms2 w2 (by omega) a2 (by
        intro j hj
        have h := a3 j hj
        rw [hitI_next hL] at h
        exact h)
      refine ⟨ms3, w3, ?_, b2, b3⟩
      rw [s64_2]
      simp (disch := first | assumption | decide) only [s64_0, s64_1, s64_3, s64_4, s64_7, s64_10, s64_11, s64_14, s64_15, s64_16, s64_18, s64_21, s64_22, s64_23, s64_24, s64_25, s64_28, s64_31, s64_34, sc_m1 S, List.getElem?_cons_zero, List.getElem?_cons_succ, Option.bind_some, Option.toList_some, Option.toList_none, List.cons_append, List.nil_append, if_neg e, sc_m0 S, lz, if_neg e2, a1, nI_1, b1]
    · have e2 : ms.getD i 0 = -3 := (Mk i (by omega)).2.2 hL
      obtain ⟨ms3, w3, b1, b2, b3⟩ := ih (i + 1) ms w (by omega) S (by
        intro j hj
        have h := Mk j hj
        rw [hitI_skip hL] at h
        exact h)
      refine ⟨ms3, w3, ?_, b2, b3⟩
      rw [s64_2]
      simp (disch := first | assumption | decide) only [s64_0, s64_1, s64_3, s64_4, s64_7, s64_10, s64_11, s64_14, s64_15, s64_16, s64_18, s64_21, s64_22, s64_23, s64_24, s64_25, s64_28, s64_31, s64_34, sc_m1 S, List.getElem?_cons_zero, List.getElem?_cons_succ, Option.bind_some, Option.toList_some, Option.toList_none, List.cons_append, List.nil_append, if_neg e, sc_m0 S, lz, if_pos e2, nI_1, b1]
theorem c_targets (Y : isBy w0 q a us B) {f n : Nat} {L : List Nat} (hf : f < 2 ^ 19) (hn : n ≤ 120) (S : isSc w0 w t D n ms) (Mk : mkS f n L (hitI B f L 0 0) ms) : ∃ (ms2 : List Int32) (w2 : ex_W), ex_call X 64 [.ref 20, .ref q, .int (nI f)] w = some (none, w2) ∧ isSc w0 w2 t D n ms2 ∧ mkS f n L (hitI B f L n 0) ms2 := by
  obtain ⟨ms2, w2, a1, a2, a3⟩ := c_targetsLoop (X := X) Y hf hn n 0 ms w (by omega) S Mk
  refine ⟨ms2, w2, ?_, a2, a3⟩
  have a1 : ex_go X 64 2 [(0, .ref 20), (1, .ref q), (2, .int (nI f)), (3, .int 0)] [] w = _ := a1
  show ex_go X 64 0 [(0, .ref 20), (1, .ref q), (2, .int (nI f))] [] w = _
  simp (disch := first | assumption | decide) only [s64_0, s64_1, a1]
end MARKS
