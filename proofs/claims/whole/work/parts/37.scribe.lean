/-! the scribe: its text grows -/
theorem holds_app {xs : List Int32} {t : List Nat} {c : Nat} (H : holds xs t) (hl : t.length < xs.length) : holds (xs.set t.length (nI c)) (t ++ [c]) := by
  refine ⟨by rw [List.length_append, List.length_set]; exact hl, fun j hj => ?_⟩
  rw [List.length_append, List.length_singleton] at hj
  rw [set_get hl]
  by_cases e : t.length = j
  · subst e
    rw [if_pos rfl, List.getD_eq_getElem?_getD, List.getElem?_append_right (Nat.le_refl _), Nat.sub_self]
    rfl
  · rw [if_neg e, H.2 j (by omega), List.getD_eq_getElem?_getD, List.getD_eq_getElem?_getD, List.getElem?_append_left (by omega)]
theorem holds_nil {xs : List Int32} : holds xs [] := ⟨Nat.zero_le _, fun j hj => absurd hj (Nat.not_lt_zero j)⟩
theorem holds_last {xs : List Int32} {t : List Nat} {c d : Nat} (H : holds xs (t ++ [c])) : holds (xs.set t.length (nI d)) (t ++ [d]) := by
  have h1 := H.1
  rw [List.length_append, List.length_singleton] at h1
  have H0 : holds xs t := by
    refine ⟨by omega, fun j hj => ?_⟩
    rw [H.2 j (by rw [List.length_append]; omega), List.getD_eq_getElem?_getD, List.getD_eq_getElem?_getD, List.getElem?_append_left hj]
  exact holds_app H0 (by omega)
/-- the scribe's cells; all others are as in w0 -/
def isSc (w0 w : ex_W) (t D : List Nat) (pl : Nat) (ms : List Int32) : Prop := w.length = w0.length ∧ (∀ j, j < 16 ∨ 21 < j → w[j]? = w0[j]?) ∧ w[15]? = some (.inl (6, [.ref 16, .ref 18, .ref 20])) ∧ (∃ xs : List Int32, isRow w 16 17 xs t.length ∧ holds xs t ∧ xs.length = 808) ∧ (∃ ds : List Int32, isRow w 18 19 ds D.length ∧ holds ds D ∧ ds.length = 19) ∧ w[20]? = some (.inl (5, [.ref 21, .int (nI pl)])) ∧ w[21]? = some (.inr (0, ms)) ∧ ms.length = 120
section SCRIBE
variable {X : Option (List Int32)} {w0 w : ex_W} {t D : List Nat} {pl : Nat} {ms : List Int32}
theorem sc_text (S : isSc w0 w t D pl ms) {ys : List Int32} {t2 : List Nat} (hl : ys.length = 808) (H : holds ys t2) : isSc w0 (rowW w 16 17 ys t2.length) t2 D pl ms := by
  obtain ⟨s1, s2, s3, ⟨xs, R, -, hx⟩, ⟨ds, Rd, Hd, hd⟩, s6, s7, s8⟩ := S
  have o : ∀ j, j ≠ 16 → j ≠ 17 → (rowW w 16 17 ys t2.length)[j]? = w[j]? := fun j a b => rowW_o a b
  refine ⟨by rw [rowW_len]; exact s1, fun j hj => ?_, (o 15 (by decide) (by decide)).trans s3, ⟨ys, rowW_is R (hl.trans hx.symm) H.1, H, hl⟩, ⟨ds, ⟨(o 18 (by decide) (by decide)).trans Rd.1, (o 19 (by decide) (by decide)).trans Rd.2.1, Rd.2.2⟩, Hd, hd⟩, (o 20 (by decide) (by decide)).trans s6, (o 21 (by decide) (by decide)).trans s7, s8⟩
  rw [o j (by omega) (by omega)]
  exact s2 j hj
theorem sc_digs (S : isSc w0 w t D pl ms) {ys : List Int32} {D2 : List Nat} (hl : ys.length = 19) (H : holds ys D2) : isSc w0 (rowW w 18 19 ys D2.length) t D2 pl ms := by
  obtain ⟨s1, s2, s3, ⟨xs, R, Hx, hx⟩, ⟨ds, Rd, Hd, hd⟩, s6, s7, s8⟩ := S
  have o : ∀ j, j ≠ 18 → j ≠ 19 → (rowW w 18 19 ys D2.length)[j]? = w[j]? := fun j a b => rowW_o a b
  refine ⟨by rw [rowW_len]; exact s1, fun j hj => ?_, (o 15 (by decide) (by decide)).trans s3, ⟨xs, ⟨(o 16 (by decide) (by decide)).trans R.1, (o 17 (by decide) (by decide)).trans R.2.1, R.2.2⟩, Hx, hx⟩, ⟨ys, rowW_is Rd (hl.trans hd.symm) H.1, H, hl⟩, (o 20 (by decide) (by decide)).trans s6, (o 21 (by decide) (by decide)).trans s7, s8⟩
  rw [o j (by omega) (by omega)]
  exact s2 j hj
theorem sc_gT (S : isSc w0 w t D pl ms) : ex_gf w 15 6 0 = some (.ref 16) := ex_gf_i S.2.2.1
theorem sc_gD (S : isSc w0 w t D pl ms) : ex_gf w 15 6 1 = some (.ref 18) := ex_gf_i S.2.2.1
theorem sc_gM (S : isSc w0 w t D pl ms) : ex_gf w 15 6 2 = some (.ref 20) := ex_gf_i S.2.2.1
theorem sc_rc (S : isSc w0 w t D pl ms) : ex_rc w 15 6 = true := ex_rc_o S.2.2.1 (by decide) (by decide)
theorem sc_rT (S : isSc w0 w t D pl ms) : ex_rc w 16 1 = true := by
  obtain ⟨-, -, -, ⟨xs, R, -⟩, -⟩ := S
  exact ex_rc_o R.1 (by decide) (by decide)
theorem sc_rD (S : isSc w0 w t D pl ms) : ex_rc w 18 1 = true := by
  obtain ⟨-, -, -, -, ⟨xs, R, -⟩, -⟩ := S
  exact ex_rc_o R.1 (by decide) (by decide)
theorem sc_nT (S : isSc w0 w t D pl ms) : ex_gf w 16 1 1 = some (.int (nI t.length)) := by
  obtain ⟨-, -, -, ⟨xs, R, -⟩, -⟩ := S
  exact ex_gf_i R.1
theorem sc_nD (S : isSc w0 w t D pl ms) : ex_gf w 18 1 1 = some (.int (nI D.length)) := by
  obtain ⟨-, -, -, -, ⟨xs, R, -⟩, -⟩ := S
  exact ex_gf_i R.1
theorem c_say {c : Nat} (S : isSc w0 w t D pl ms) (h : t.length < 808) : ∃ w2, ex_call X 17 [.ref 16, .int (nI c)] w = some (none, w2) ∧ isSc w0 w2 (t ++ [c]) D pl ms := by
  obtain ⟨xs, R, H, hx⟩ := S.2.2.2.1
  refine ⟨_, r_append R (by omega), ?_⟩
  have := sc_text (t2 := t ++ [c]) S (ys := xs.set t.length (nI c)) (by rw [List.length_set]; exact hx) (holds_app H (by omega))
  rw [List.length_append, List.length_singleton] at this
  exact this
theorem c_dig {c : Nat} (S : isSc w0 w t D pl ms) (h : D.length < 19) : ∃ w2, ex_call X 17 [.ref 18, .int (nI c)] w = some (none, w2) ∧ isSc w0 w2 t (D ++ [c]) pl ms := by
  obtain ⟨xs, R, H, hx⟩ := S.2.2.2.2.1
  refine ⟨_, r_append R (by omega), ?_⟩
  have := sc_digs (D2 := D ++ [c]) S (ys := xs.set D.length (nI c)) (by rw [List.length_set]; exact hx) (holds_app H (by omega))
  rw [List.length_append, List.length_singleton] at this
  exact this
theorem c_emptyT (S : isSc w0 w t D pl ms) : ∃ w2, ex_call X 16 [.ref 16] w = some (none, w2) ∧ isSc w0 w2 [] D pl ms := by
  obtain ⟨xs, R, H, hx⟩ := S.2.2.2.1
  exact ⟨_, r_empty R, sc_text (t2 := []) S hx holds_nil⟩
theorem c_emptyD (S : isSc w0 w t D pl ms) : ∃ w2, ex_call X 16 [.ref 18] w = some (none, w2) ∧ isSc w0 w2 t [] pl ms := by
  obtain ⟨xs, R, H, hx⟩ := S.2.2.2.2.1
  exact ⟨_, r_empty R, sc_digs (D2 := []) S hx holds_nil⟩
theorem c_cellD {i : Nat} (S : isSc w0 w t D pl ms) (hi : i < 2 ^ 31) : ex_call X 18 [.ref 18, .int (nI i)] w = some (some (.int (nI (D.getD i 0))), w) := by
  obtain ⟨xs, R, H, hx⟩ := S.2.2.2.2.1
  exact r_cellB R H hi
theorem c_endLine {c : Nat} (S : isSc w0 w (t ++ [c]) D pl ms) (ht : t.length < 808) : ∃ w2, ex_call X 73 [.ref 15] w = some (none, w2) ∧ isSc w0 w2 (t ++ [10]) D pl ms := by
  obtain ⟨xs, R, H, hx⟩ := S.2.2.2.1
  have gT := sc_gT S
  have nT := sc_nT S
  have rT := sc_rT S
  have ln : (t ++ [c]).length = t.length + 1 := by rw [List.length_append, List.length_singleton]
  rw [ln] at nT
  have sb : nI (t.length + 1) - 1 = nI t.length := nI_pred _
  refine ⟨rowW w 16 17 (xs.set t.length (nI 10)) (t.length + 1), ?_, ?_⟩
  · have e1 : ¬ nI t.length < 0 := nI_pos (by omega)
    have e2 : ¬ nI (t.length + 1) ≤ nI t.length := nI_ge (by omega) (by omega)
    have gA := ex_gf_i (k := 0) R.1
    rw [List.getElem?_cons_zero] at gA
    have as := ex_as_i (kd := 0) (n := t.length) (x := 10) R.2.1 (by omega) (by omega)
    have ch : ex_call X 19 [.ref 16, .int (nI t.length), .int 10] w = some (none, rowW w 16 17 (xs.set t.length (nI 10)) (t.length + 1)) := by
      show ex_go X 19 0 [(0, .ref 16), (1, .int (nI t.length)), (2, .int 10)] [] w = _
      simp (disch := first | assumption | decide) only [s19_0, s19_1, s19_4, s19_5, s19_6, s19_9, s19_12, s19_13, s19_16, s19_17, s19_18, s19_19, if_neg e1, List.getElem?_cons_zero, List.getElem?_cons_succ, Option.bind_some, Option.toList_some, Option.toList_none, List.cons_append, List.nil_append, nT, if_neg e2, gA, as]
      unfold rowW
      rw [set_id (w := w.set 17 _) (i := 16) (ex_set_o (by decide) (by have := R.1; rw [ln] at this; exact this))]
      rfl
    show ex_go X 73 0 [(0, .ref 15)] [] w = _
    simp (disch := first | assumption | decide) only [s73_0, s73_1, s73_4, s73_5, s73_8, s73_11, s73_12, s73_13, s73_15, s73_18, gT, List.getElem?_cons_zero, List.getElem?_cons_succ, Option.bind_some, Option.toList_some, Option.toList_none, List.cons_append, List.nil_append, nT, sb, ch]
  · have := sc_text (t2 := t ++ [10]) S (ys := xs.set t.length (nI 10)) (by rw [List.length_set]; exact hx) (holds_last H)
    rw [List.length_append, List.length_singleton] at this
    exact this
end SCRIBE
