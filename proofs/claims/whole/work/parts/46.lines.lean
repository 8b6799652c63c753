/-! the other object's lines -/
def okL (B : List Nat) (f n : Nat) (L : List Nat) : Prop := ∀ p, p ∈ L → f ≤ p ∧ p < f + n ∧ p + headN (B.getD p 0) + 2 * distN B p ≤ f + n ∧ B.getD p 0 ≤ 10
theorem okL_st {B : List Nat} {f n k : Nat} (h : clrN B (f + n) k f = true) : okL B f n (stL B (f + n) k f) := by
  intro p hp
  have h1 := stL_mem _ _ _ hp
  obtain ⟨d1, d2, d3⟩ := wid_le (stL_all _ _ _ h hp)
  exact ⟨h1.1, h1.2, by omega, d1⟩
def bgS (f n : Nat) (L : List Nat) (bg : List Int32) : Prop := ∀ j, j ≤ n → bg.getD j 0 = if f + j ∈ L then 1 else 0
def lnP (f n : Nat) (L : List Nat) (P : Nat → Prop) (ln : List Int32) : Prop := ∀ j, j < n → (f + j ∈ L → P j → ln.getD j 0 = 1) ∧ (¬ (f + j ∈ L ∧ P j) → ln.getD j 0 = 0)
section LINES2
variable {X : Option (List Int32)} {w0 w : ex_W} {m : Nat → Int32} {v : Int64} {t : List Nat} {ds bg ln bs : List Int32} {B : List Nat} {f n p : Nat} {L : List Nat}
theorem y_distances (M : isB w m v bs B) (hp : p < B.length) (h10 : B.getD p 0 = 10 → p + 1 < B.length) : ex_call X 121 [.ref 32, .int (nI p)] w = some (some (.int (nI (distN B p))), w) := by
  have g : ex_gf w 32 8 0 = some (.ref 33) := (ex_gf_i M.1).trans mo_0
  have h0 := y_blk M (p := p) hp
  have hb := M.2.2.2.2 p
  show ex_go X 121 0 [(0, .ref 32), (1, .int (nI p))] [] w = _
  unfold distN
  by_cases c6 : B.getD p 0 = 6
  · rw [if_pos c6]
    rw [c6] at h0
    have e : nI 6 = 6 := rfl
    simp (disch := first | assumption | decide) only [s121_0, s121_1, s121_4, s121_5, s121_6, s121_8, s121_11, s121_12, s121_15, s121_16, s121_17, s121_19, s121_22, s121_23, s121_26, s121_27, s121_30, s121_31, s121_32, s121_34, s121_37, s121_38, s121_41, s121_42, s121_43, s121_44, s121_45, s121_48, s121_49, g, List.getElem?_cons_zero, List.getElem?_cons_succ, Option.bind_some, Option.toList_some, Option.toList_none, List.cons_append, List.nil_append, h0, if_pos e]
    rfl
  · have e6 : ¬ nI (B.getD p 0) = 6 := fun z => c6 ((nI_eq (b := 6) (by omega) (by decide)).mp z)
    rw [if_neg c6]
    by_cases c7 : B.getD p 0 = 7
    · rw [if_pos c7]
      have e7 : ¬ ¬ nI (B.getD p 0) = 7 := by rw [c7]; decide
      simp (disch := first | assumption | decide) only [s121_0, s121_1, s121_4, s121_5, s121_6, s121_8, s121_11, s121_12, s121_15, s121_16, s121_17, s121_19, s121_22, s121_23, s121_26, s121_27, s121_30, s121_31, s121_32, s121_34, s121_37, s121_38, s121_41, s121_42, s121_43, s121_44, s121_45, s121_48, s121_49, g, List.getElem?_cons_zero, List.getElem?_cons_succ, Option.bind_some, Option.toList_some, Option.toList_none, List.cons_append, List.nil_append, h0, if_neg e6, if_neg e7]
      rfl
    · have e7 : ¬ nI (B.getD p 0) = 7 := fun z => c7 ((nI_eq (b := 7) (by omega) (by decide)).mp z)
      rw [if_neg c7]
      by_cases c10 : B.getD p 0 = 10
      · rw [if_pos c10]
        have h1 := y_blk M (p := p + 1) (h10 c10)
        have e10 : ¬ ¬ nI (B.getD p 0) = 10 := by rw [c10]; decide
        simp (disch := first | assumption | decide) only [s121_0, s121_1, s121_4, s121_5, s121_6, s121_8, s121_11, s121_12, s121_15, s121_16, s121_17, s121_19, s121_22, s121_23, s121_26, s121_27, s121_30, s121_31, s121_32, s121_34, s121_37, s121_38, s121_41, s121_42, s121_43, s121_44, s121_45, s121_48, s121_49, g, List.getElem?_cons_zero, List.getElem?_cons_succ, Option.bind_some, Option.toList_some, Option.toList_none, List.cons_append, List.nil_append, h0, if_neg e6, if_pos e7, if_neg e10, nI_1, h1]
      · have e10 : ¬ nI (B.getD p 0) = 10 := fun z => c10 ((nI_eq (b := 10) (by omega) (by decide)).mp z)
        rw [if_neg c10]
        simp (disch := first | assumption | decide) only [s121_0, s121_1, s121_4, s121_5, s121_6, s121_8, s121_11, s121_12, s121_15, s121_16, s121_17, s121_19, s121_22, s121_23, s121_26, s121_27, s121_30, s121_31, s121_32, s121_34, s121_37, s121_38, s121_41, s121_42, s121_43, s121_44, s121_45, s121_48, s121_49, g, List.getElem?_cons_zero, List.getElem?_cons_succ, Option.bind_some, Option.toList_some, Option.toList_none, List.cons_append, List.nil_append, h0, if_neg e6, if_pos e7, if_pos e10]
        rfl
theorem y_firstOf {op : Nat} (h : op = 6 ∨ op = 7 ∨ op = 10) : ex_call X 122 [.int (nI op), .int (nI p)] w = some (some (.int (nI (p + headN op))), w) := by
  show ex_go X 122 0 [(0, .int (nI op)), (1, .int (nI p))] [] w = _
  rcases h with h | h | h <;> subst h
  · simp (disch := first | assumption | decide) only [s122_0, s122_1, s122_3, s122_6, s122_7, s122_8, s122_9, s122_12, s122_13, s122_14, s122_15, if_pos, if_neg, nI_1]
    rfl
  · simp (disch := first | assumption | decide) only [s122_0, s122_1, s122_3, s122_6, s122_7, s122_8, s122_9, s122_12, s122_13, s122_14, s122_15, if_pos, if_neg, nI_1]
    rfl
  · simp (disch := first | assumption | decide) only [s122_0, s122_1, s122_3, s122_6, s122_7, s122_8, s122_9, s122_12, s122_13, s122_14, s122_15, if_pos, if_neg, nI_2]
    rfl
theorem dist_op (h : 0 < distN B p) : B.getD p 0 = 6 ∨ B.getD p 0 = 7 ∨ B.getD p 0 = 10 := by
  unfold distN at h
  split at h
  next c => exact Or.inl c
  next =>
    split at h
    next c => exact Or.inr (Or.inl c)
    next =>
      split at h
      next c => exact Or.inr (Or.inr c)
      next => omega
/-- what target answers -/
theorem y_target {q : Nat} (S : isTx w0 w m v t ds bg ln) (Y : isBm w0 bs B) (hL : okL B f n L) (hn : n ≤ 120) (hf : f + n ≤ B.length) (hb : bgS f n L bg) (hp : p ∈ L) (hq : q < distN B p) : (∃ z, z < n ∧ f + z ∈ L ∧ tgI B f p q = nI z ∧ ex_call X 123 [.ref 32, .int (nI f), .int (nI n), .int (nI p), .int (nI (p + headN (B.getD p 0) + 2 * q))] w = some (some (.int (nI z)), w)) ∨ ((∀ z, z < n → f + z ∈ L → ¬ tgI B f p q = nI z) ∧ ex_call X 123 [.ref 32, .int (nI f), .int (nI n), .int (nI p), .int (nI (p + headN (B.getD p 0) + 2 * q))] w = some (some (.int (-1)), w)) := by
  obtain ⟨l1, l2, l3, l4⟩ := hL p hp
  have hbl : B.length ≤ 130 := by have := Y.2.2.1.1; have := Y.2.1; omega
  have rc := tx_rc S
  have yd := y_distance (X := X) (c := p + headN (B.getD p 0) + 2 * q) (tx_B S Y) (by omega)
  have g : ex_gf w 32 8 11 = some (.ref 39) := (ex_gf_i S.2.2.1).trans mo_11
  have sb : nI p - nI f = nI (p - f) := pk_sub l1
  have tq : nI (p - f) + d32 B (p + headN (B.getD p 0) + 2 * q) = tgI B f p q := rfl
  have hd : ex_call X 123 [.ref 32, .int (nI f), .int (nI n), .int (nI p), .int (nI (p + headN (B.getD p 0) + 2 * q))] w = ex_go X 123 12 [(0, .ref 32), (1, .int (nI f)), (2, .int (nI n)), (3, .int (nI p)), (4, .int (nI (p + headN (B.getD p 0) + 2 * q))), (5, .int (tgI B f p q))] [] w := by
    show ex_go X 123 0 [(0, .ref 32), (1, .int (nI f)), (2, .int (nI n)), (3, .int (nI p)), (4, .int (nI (p + headN (B.getD p 0) + 2 * q)))] [] w = _
    simp (disch := first | assumption | decide) only [s123_0, s123_1, s123_2, s123_3, s123_4, s123_6, s123_9, s123_10, sb, yd, List.getElem?_cons_zero, List.getElem?_cons_succ, Option.bind_some, Option.toList_some, Option.toList_none, List.cons_append, List.nil_append, tq]
  rw [hd]
  rcases pk_ix (tgI B f p q) (n := n) (by omega) with c | c | ⟨z, hz, c⟩
  · refine Or.inr ⟨fun z hz _ y => ?_, ?_⟩
    · rw [y] at c
      exact absurd c (nI_pos (by omega))
    · simp (disch := first | assumption | decide) only [s123_12, s123_14, s123_17, s123_19, s123_20, s123_23, s123_24, s123_27, s123_29, s123_30, s123_33, s123_35, s123_38, s123_39, if_pos c]
  · refine Or.inr ⟨fun z hz _ y => ?_, ?_⟩
    · rw [y] at c
      exact absurd c (nI_ge hz (by omega))
    · have c0 : ¬ tgI B f p q < 0 := by
        intro z
        rw [Int32.lt_iff_toInt_lt] at z
        rw [Int32.le_iff_toInt_le, nI_toInt (by omega)] at c
        have : (0 : Int32).toInt = 0 := rfl
        omega
      simp (disch := first | assumption | decide) only [s123_12, s123_14, s123_17, s123_19, s123_20, s123_23, s123_24, s123_27, s123_29, s123_30, s123_33, s123_35, s123_38, s123_39, if_neg c0, if_pos c]
  · have c0 : ¬ nI z < 0 := nI_pos (by omega)
    have c1 : ¬ nI n ≤ nI z := nI_ge hz (by omega)
    have al := ex_al_i (kd := 1) (n := z) S.2.2.2.2.2.2.1 (by have := S.2.2.2.2.2.2.2.1; omega) (by have := S.2.2.2.2.2.2.2.1; omega)
    rw [hb z (by omega)] at al
    by_cases hz2 : f + z ∈ L
    · rw [if_pos hz2] at al
      have n1 : ¬ (1 : Int32) = 0 := by decide
      refine Or.inl ⟨z, hz, hz2, c, ?_⟩
      rw [c]
      simp (disch := first | assumption | decide) only [s123_12, s123_14, s123_17, s123_19, s123_20, s123_23, s123_24, s123_27, s123_29, s123_30, s123_33, s123_35, s123_38, s123_39, if_neg c0, if_neg c1, g, List.getElem?_cons_zero, List.getElem?_cons_succ, Option.bind_some, Option.toList_some, Option.toList_none, List.cons_append, List.nil_append, al, if_neg n1]
    · rw [if_neg hz2] at al
      refine Or.inr ⟨fun z2 hz3 h2 y => ?_, ?_⟩
      · rw [c] at y
        have := (nI_eq (by omega) (by omega)).mp y
        subst this
        exact hz2 h2
      · rw [c]
        simp (disch := first | assumption | decide) only [s123_12, s123_14, s123_17, s123_19, s123_20, s123_23, s123_24, s123_27, s123_29, s123_30, s123_33, s123_35, s123_38, s123_39, if_neg c0, if_neg c1, g, List.getElem?_cons_zero, List.getElem?_cons_succ, Option.bind_some, Option.toList_some, Option.toList_none, List.cons_append, List.nil_append, al, if_true]
theorem tx_line {ln2 : List Int32} (S : isTx w0 w m v t ds bg ln) (h : ln2.length = 121) : isTx w0 (w.set 40 (.inr (0, ln2))) m v t ds bg ln2 := by
  obtain ⟨s1, s2, s3, ⟨xs, x1, x2, x3⟩, d1, d2, s6, s7, s8, s9⟩ := S
  exact ⟨by rw [List.length_set]; exact s1, fun j a b => by rw [List.getElem?_set_ne (by omega)]; exact s2 j a b, ex_set_o (by decide) s3, ⟨xs, ex_set_o (by decide) x1, x2, x3⟩, ex_set_o (by decide) d1, d2, ex_set_o (by decide) s6, s7, ex_set_s s8, h⟩
theorem tx_ls {i : Nat} {x : Int32} (S : isTx w0 w m v t ds bg ln) (hi : i < 121) : ex_as w 40 0 (nI i) x = some (w.set 40 (.inr (0, ln.set i x))) ∧ isTx w0 (w.set 40 (.inr (0, ln.set i x))) m v t ds bg (ln.set i x) := ⟨ex_as_i S.2.2.2.2.2.2.2.2.1 (by have := S.2.2.2.2.2.2.2.2.2; omega) (by have := S.2.2.2.2.2.2.2.2.2; omega), tx_line S (by rw [List.length_set]; exact S.2.2.2.2.2.2.2.2.2)⟩
theorem tx_ll {i : Nat} (S : isTx w0 w m v t ds bg ln) (hi : i < 121) : ex_al w 40 0 (nI i) = some (ln.getD i 0) := ex_al_i S.2.2.2.2.2.2.2.2.1 (by have := S.2.2.2.2.2.2.2.2.2; omega) (by have := S.2.2.2.2.2.2.2.2.2; omega)
theorem tx_g12 (S : isTx w0 w m v t ds bg ln) : ex_gf w 32 8 12 = some (.ref 40) := (ex_gf_i S.2.2.1).trans mo_12
theorem tx_g11 (S : isTx w0 w m v t ds bg ln) : ex_gf w 32 8 11 = some (.ref 39) := (ex_gf_i S.2.2.1).trans mo_11
theorem tx_bl {i : Nat} (S : isTx w0 w m v t ds bg ln) (hi : i < 121) : ex_al w 39 1 (nI i) = some (bg.getD i 0) := ex_al_i S.2.2.2.2.2.2.1 (by have := S.2.2.2.2.2.2.2.1; omega) (by have := S.2.2.2.2.2.2.2.1; omega)
theorem y_zeroLoop (hn : n ≤ 120) : ∀ (r i : Nat) (ln : List Int32) (w : ex_W), i + r = n + 1 → isTx w0 w m v t ds bg ln → (∀ j, j < i → ln.getD j 0 = 0) → ∃ (ln2 : List Int32) (w2 : ex_W), ex_go X 120 2 [(0, .ref 32), (1, .int (nI f)), (2, .int (nI n)), (3, .int (nI i))] [] w = ex_go X 120 20 [(0, .ref 32), (1, .int (nI f)), (2, .int (nI n))] [] w2 ∧ isTx w0 w2 m v t ds bg ln2 ∧ ∀ j, j ≤ n → ln2.getD j 0 = 0 := by
  intro r
  induction r with
  | zero =>
    intro i ln w hi S h0
    have e : nI n < nI i := nI_lt (by omega) (by omega)
    refine ⟨ln, w, ?_, S, fun j hj => h0 j (by omega)⟩
    simp (disch := first | assumption | decide) only [s120_2, s120_3, s120_4, if_pos e]
  | succ r ih =>
    intro i ln w hi S h0
    have e : ¬ nI n < nI i := nI_nlt (by omega) (by omega)
    have hll := S.2.2.2.2.2.2.2.2.2
    obtain ⟨as, S1⟩ := tx_ls (i := i) (x := 0) S (by omega)
    obtain ⟨ln2, w2, a1, a2, a3⟩ := ih (i + 1) _ _ (by omega) S1 (by
      intro j hj
      rw [set_get (by omega)]
      split
      next => rfl
      next => exact h0 j (by omega))
    refine ⟨ln2, w2, ?_, a2, a3⟩
    rw [s120_2]
    simp (disch := first | assumption | decide) only [s120_3, s120_4, s120_7, s120_8, s120_11, s120_12, s120_13, s120_14, s120_17, if_neg e, tx_g12 S, List.getElem?_cons_zero, List.getElem?_cons_succ, Option.bind_some, Option.toList_some, Option.toList_none, List.cons_append, List.nil_append, as, nI_1, a1]
end LINES2
