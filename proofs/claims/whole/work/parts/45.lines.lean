/-! the lines @K of a code -/
noncomputable def Tb (B : List Nat) (f n : Nat) (L : List Nat) (z : Nat) : Bool := @decide (z < n ∧ f + z ∈ L ∧ hitI B f L n 0 z) (Classical.propDecidable _)
theorem Tb_iff {B : List Nat} {f n : Nat} {L : List Nat} {z : Nat} : Tb B f n L z = true ↔ z < n ∧ f + z ∈ L ∧ hitI B f L n 0 z := by
  unfold Tb
  exact @decide_eq_true_iff _ (Classical.propDecidable _)
def cntB (T : Nat → Bool) : Nat → Nat
  | 0 => 0
  | j + 1 => cntB T j + (if T j = true then 1 else 0)
theorem cntB_le (T : Nat → Bool) : ∀ j, cntB T j ≤ j
  | 0 => Nat.le_refl _
  | j + 1 => by
    have := cntB_le T j
    rw [cntB]
    split <;> omega
def lnS (f n : Nat) (L : List Nat) (T : Nat → Bool) (i : Nat) (ms : List Int32) : Prop := ∀ j, j < n → (T j = true → ms.getD j 0 = if j < i then nI (cntB T j) else -1) ∧ (T j = false → f + j ∈ L → ms.getD j 0 = -2) ∧ (¬ f + j ∈ L → ms.getD j 0 = -3)
section LINES
variable {X : Option (List Int32)} {w0 w : ex_W} {t D : List Nat} {pl : Nat} {ms : List Int32} {q a : Nat} {us : List Int32} {B : List Nat}
theorem c_numberLoop {f n : Nat} {L : List Nat} {T : Nat → Bool} (hn : n ≤ 120) (hT : ∀ j, T j = true → f + j ∈ L) : ∀ (r i : Nat) (ms : List Int32) (w : ex_W), i + r = n → isSc w0 w t D n ms → lnS f n L T i ms → ∃ (ms2 : List Int32) (w2 : ex_W), ex_go X 66 4 [(0, .ref 20), (1, .int (nI (cntB T i))), (2, .int (nI i))] [] w = some (none, w2) ∧ isSc w0 w2 t D n ms2 ∧ lnS f n L T n ms2 := by
  intro r
  induction r with
  | zero =>
    intro i ms w hi S Mk
    have e : nI n ≤ nI i := nI_le (by omega) (by omega)
    have hi : i = n := by omega
    refine ⟨ms, w, ?_, S, by rw [hi] at Mk; exact Mk⟩
    simp (disch := first | assumption | decide) only [s66_0, s66_1, s66_2, s66_3, s66_4, s66_5, s66_6, s66_9, s66_12, s66_13, s66_16, s66_17, s66_18, s66_19, s66_22, s66_23, s66_26, s66_27, s66_28, s66_29, s66_32, s66_35, s66_38, sc_m1 S, List.getElem?_cons_zero, List.getElem?_cons_succ, Option.bind_some, Option.toList_some, Option.toList_none, List.cons_append, List.nil_append, if_pos e]
  | succ r ih =>
    intro i ms w hi S Mk
    have e : ¬ nI n ≤ nI i := nI_ge (by omega) (by omega)
    have lz := sc_ml (i := i) S (by omega)
    have hml := S.2.2.2.2.2.2.2
    have Mi := Mk i (by omega)
    cases hTi : T i with
    | true =>
      have e2 : ms.getD i 0 = -1 := by rw [Mi.1 hTi, if_neg (by omega)]
      have cn : cntB T (i + 1) = cntB T i + 1 := by rw [cntB, hTi, if_pos rfl]
      obtain ⟨as, S1⟩ := sc_ms (i := i) (x := nI (cntB T i)) S (by omega)
      obtain ⟨ms3, w3, b1, b2, b3⟩ := ih (i + 1) _ _ (by omega) S1 (by
        intro j hj
        rw [set_get (by omega)]
        by_cases qz : i = j
        · subst qz
          rw [if_pos rfl]
          refine ⟨fun _ => by rw [if_pos (by omega)], fun h => ?_, fun h => absurd (hT i hTi) h⟩
          rw [hTi] at h
          cases h
        · rw [if_neg qz]
          refine ⟨fun h => ?_, (Mk j hj).2⟩
          rw [(Mk j hj).1 h]
          by_cases c : j < i
          · rw [if_pos c, if_pos (by omega)]
          · rw [if_neg c, if_neg (by omega)])
      refine ⟨ms3, w3, ?_, b2, b3⟩
      rw [cn] at b1
      have e3 : ¬ ¬ ms.getD i 0 = -1 := fun z => z e2
      rw [s66_4]
      simp (disch := first | assumption | decide) only [s66_0, s66_1, s66_2, s66_3, s66_5, s66_6, s66_9, s66_12, s66_13, s66_16, s66_17, s66_18, s66_19, s66_22, s66_23, s66_26, s66_27, s66_28, s66_29, s66_32, s66_35, s66_38, sc_m1 S, List.getElem?_cons_zero, List.getElem?_cons_succ, Option.bind_some, Option.toList_some, Option.toList_none, List.cons_append, List.nil_append, if_neg e, sc_m0 S, lz, if_neg e3, as, nI_1, b1]
    | false =>
      have e2 : ¬ ms.getD i 0 = -1 := by
        by_cases h : f + i ∈ L
        · rw [Mi.2.1 hTi h]
          decide
        · rw [Mi.2.2 h]
          decide
      have cn : cntB T (i + 1) = cntB T i := by rw [cntB, hTi, if_neg Bool.false_ne_true, Nat.add_zero]
      obtain ⟨ms3, w3, b1, b2, b3⟩ := ih (i + 1) ms w (by omega) S (by
        intro j hj
        refine ⟨fun h => ?_, (Mk j hj).2⟩
        have hne : ¬ j = i := fun z => by rw [z, hTi] at h; cases h
        rw [(Mk j hj).1 h]
        by_cases c : j < i
        · rw [if_pos c, if_pos (by omega)]
        · rw [if_neg c, if_neg (by omega)])
      refine ⟨ms3, w3, ?_, b2, b3⟩
      rw [cn] at b1
      rw [s66_4]
      simp (disch := first | assumption | decide) only [s66_0, s66_1, s66_2, s66_3, s66_5, s66_6, s66_9, s66_12, s66_13, s66_16, s66_17, s66_18, s66_19, s66_22, s66_23, s66_26, s66_27, s66_28, s66_29, s66_32, s66_35, s66_38, sc_m1 S, List.getElem?_cons_zero, List.getElem?_cons_succ, Option.bind_some, Option.toList_some, Option.toList_none, List.cons_append, List.nil_append, if_neg e, sc_m0 S, lz, if_pos e2, nI_1, b1]
theorem c_numberT {f n : Nat} {L : List Nat} {T : Nat → Bool} (hn : n ≤ 120) (hT : ∀ j, T j = true → f + j ∈ L) (S : isSc w0 w t D n ms) (Mk : lnS f n L T 0 ms) : ∃ (ms2 : List Int32) (w2 : ex_W), ex_call X 66 [.ref 20] w = some (none, w2) ∧ isSc w0 w2 t D n ms2 ∧ lnS f n L T n ms2 := by
  obtain ⟨ms2, w2, a1, a2, a3⟩ := c_numberLoop (X := X) hn hT n 0 ms w (by omega) S Mk
  refine ⟨ms2, w2, ?_, a2, a3⟩
  have a1 : ex_go X 66 4 [(0, .ref 20), (1, .int 0), (2, .int 0)] [] w = _ := a1
  show ex_go X 66 0 [(0, .ref 20)] [] w = _
  simp (disch := first | assumption | decide) only [s66_0, s66_1, s66_2, s66_3, a1]
theorem mkS_lnS {f n : Nat} {L : List Nat} (h : mkS f n L (hitI B f L n 0) ms) : lnS f n L (Tb B f n L) 0 ms := by
  intro j hj
  refine ⟨fun h1 => ?_, fun h1 h2 => ?_, (h j hj).2.2⟩
  · rw [Tb_iff] at h1
    rw [(h j hj).1 h1.2.1 h1.2.2, if_neg (by omega)]
  · refine (h j hj).2.1 h2 (fun z => ?_)
    have := Tb_iff.mpr ⟨hj, h2, z⟩
    rw [h1] at this
    cases this
theorem c_lineYes {f n z : Nat} {L : List Nat} {T : Nat → Bool} (hn : n ≤ 120) (S : isSc w0 w t D n ms) (Mk : lnS f n L T n ms) (hz : z < n) (hT : T z = true) : ex_call X 67 [.ref 20, .int (nI z)] w = some (some (.int (nI (cntB T z))), w) := by
  have lz := sc_ml (i := z) S (by omega)
  have cl := cntB_le T z
  rw [(Mk z hz).1 hT, if_pos hz] at lz
  have c0 : ¬ nI z < 0 := nI_pos (by omega)
  have c1 : ¬ nI n ≤ nI z := nI_ge hz (by omega)
  have c2 : ¬ nI (cntB T z) < 0 := nI_pos (by omega)
  show ex_go X 67 0 [(0, .ref 20), (1, .int (nI z))] [] w = _
  simp (disch := first | assumption | decide) only [s67_0, s67_1, s67_4, s67_5, s67_6, s67_9, s67_12, s67_13, s67_16, s67_17, s67_18, s67_21, s67_22, s67_25, s67_26, s67_27, s67_30, s67_31, if_neg c0, sc_m1 S, List.getElem?_cons_zero, List.getElem?_cons_succ, Option.bind_some, Option.toList_some, Option.toList_none, List.cons_append, List.nil_append, if_neg c1, sc_m0 S, lz, if_neg c2]
theorem c_lineNo {f n : Nat} {L : List Nat} {T : Nat → Bool} {x : Int32} (hn : n ≤ 120) (S : isSc w0 w t D n ms) (Mk : lnS f n L T n ms) (hx : ∀ z, z < n → x = nI z → T z = false) : ex_call X 67 [.ref 20, .int x] w = some (some (.int (-1)), w) := by
  show ex_go X 67 0 [(0, .ref 20), (1, .int x)] [] w = _
  rcases pk_ix x (n := n) (by omega) with c | c | ⟨z, hz, c⟩
  · simp (disch := first | assumption | decide) only [s67_0, s67_1, s67_4, s67_5, s67_6, s67_9, s67_12, s67_13, s67_16, s67_17, s67_18, s67_21, s67_22, s67_25, s67_26, s67_27, s67_30, s67_31, if_pos c]
  · have c0 : ¬ x < 0 := by
      intro z
      rw [Int32.lt_iff_toInt_lt] at z
      rw [Int32.le_iff_toInt_le, nI_toInt (by omega)] at c
      have : (0 : Int32).toInt = 0 := rfl
      omega
    simp (disch := first | assumption | decide) only [s67_0, s67_1, s67_4, s67_5, s67_6, s67_9, s67_12, s67_13, s67_16, s67_17, s67_18, s67_21, s67_22, s67_25, s67_26, s67_27, s67_30, s67_31, if_neg c0, sc_m1 S, List.getElem?_cons_zero, List.getElem?_cons_succ, Option.bind_some, Option.toList_some, Option.toList_none, List.cons_append, List.nil_append, if_pos c]
  · have hT := hx z hz c
    have lz := sc_ml (i := z) S (by omega)
    have c0 : ¬ nI z < 0 := nI_pos (by omega)
    have c1 : ¬ nI n ≤ nI z := nI_ge hz (by omega)
    have c2 : ms.getD z 0 < 0 := by
      by_cases h : f + z ∈ L
      · rw [(Mk z hz).2.1 hT h]
        decide
      · rw [(Mk z hz).2.2 h]
        decide
    rw [c]
    simp (disch := first | assumption | decide) only [s67_0, s67_1, s67_4, s67_5, s67_6, s67_9, s67_12, s67_13, s67_16, s67_17, s67_18, s67_21, s67_22, s67_25, s67_26, s67_27, s67_30, s67_31, if_neg c0, sc_m1 S, List.getElem?_cons_zero, List.getElem?_cons_succ, Option.bind_some, Option.toList_some, Option.toList_none, List.cons_append, List.nil_append, if_neg c1, sc_m0 S, lz, if_pos c2]
theorem c_isStart {f n z : Nat} {L : List Nat} {T : Nat → Bool} (hn : n ≤ 120) (S : isSc w0 w t D n ms) (Mk : lnS f n L T n ms) (hz : z < n) : ex_call X 68 [.ref 20, .int (nI z)] w = some (some (.int (if f + z ∈ L then 1 else 0)), w) := by
  have lz := sc_ml (i := z) S (by omega)
  have cl := cntB_le T z
  have c0 : ¬ nI z < 0 := nI_pos (by omega)
  have c1 : ¬ nI n ≤ nI z := nI_ge hz (by omega)
  show ex_go X 68 0 [(0, .ref 20), (1, .int (nI z))] [] w = _
  by_cases h : f + z ∈ L
  · have c2 : ¬ ms.getD z 0 = -3 := by
      cases hT : T z with
      | true =>
        rw [(Mk z hz).1 hT, if_pos hz]
        intro y
        have := nI_pos (n := cntB T z) (by omega)
        rw [y] at this
        exact this (by decide)
      | false =>
        rw [(Mk z hz).2.1 hT h]
        decide
    rw [if_pos h]
    simp (disch := first | assumption | decide) only [s68_0, s68_1, s68_4, s68_5, s68_6, s68_9, s68_12, s68_13, s68_16, s68_17, s68_18, s68_20, s68_23, s68_24, s68_27, s68_28, if_neg c0, sc_m1 S, List.getElem?_cons_zero, List.getElem?_cons_succ, Option.bind_some, Option.toList_some, Option.toList_none, List.cons_append, List.nil_append, if_neg c1, sc_m0 S, lz, if_neg c2]
  · have c2 : ms.getD z 0 = -3 := (Mk z hz).2.2 h
    rw [if_neg h]
    simp (disch := first | assumption | decide) only [s68_0, s68_1, s68_4, s68_5, s68_6, s68_9, s68_12, s68_13, s68_16, s68_17, s68_18, s68_20, s68_23, s68_24, s68_27, s68_28, if_neg c0, sc_m1 S, List.getElem?_cons_zero, List.getElem?_cons_succ, Option.bind_some, Option.toList_some, Option.toList_none, List.cons_append, List.nil_append, if_neg c1, sc_m0 S, lz, if_pos c2]
end LINES
