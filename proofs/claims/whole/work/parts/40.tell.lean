/-! the signed numbers; the other object's text grows -/
section SIGNED
variable {X : Option (List Int32)} {w : ex_W} {q a : Nat} {us : List Int32} {B : List Nat}
theorem c_signedLoop (R : isRow w q a us B.length) (H : holds us B) (hB : ∀ j, B.getD j 0 < 256) {p n : Nat} (hp : p < 2 ^ 20) (hn : n ≤ 8) : ∀ (k i : Nat), i + k = n → ex_go X 20 11 [(0, .ref q), (1, .int (nI p)), (2, .int (nI n)), (3, .long (wdN B p i)), (5, .int (nI i))] [] w = some (some (.long (wdN B p n)), w) := by
  have rc := ex_rc_o R.1 R.2.2.2.2.1 (by decide)
  intro k
  induction k with
  | zero =>
    intro i hi
    have e : nI n ≤ nI i := nI_le (by omega) (by omega)
    simp (disch := first | assumption | decide) only [s20_0, s20_1, s20_2, s20_5, s20_6, s20_7, s20_8, s20_9, s20_11, s20_13, s20_14, s20_17, s20_18, s20_20, s20_21, s20_22, s20_23, s20_25, s20_26, s20_29, s20_30, s20_31, s20_32, s20_35, s20_38, s20_39, if_pos e]
    rw [show i = n by omega]
  | succ k ih =>
    intro i hi
    have e : ¬ nI n ≤ nI i := nI_ge (by omega) (by omega)
    have cb := r_cellB (X := X) (i := p + i) R H (by omega)
    have ih := ih (i + 1) (by omega)
    rw [wdN, ← shl8 (hB (p + i))] at ih
    rw [← ih, s20_11]
    simp (disch := first | assumption | decide) only [s20_0, s20_1, s20_2, s20_5, s20_6, s20_7, s20_8, s20_9, s20_13, s20_14, s20_17, s20_18, s20_20, s20_21, s20_22, s20_23, s20_25, s20_26, s20_29, s20_30, s20_31, s20_32, s20_35, s20_38, s20_39, if_neg e, List.getElem?_cons_zero, List.getElem?_cons_succ, Option.bind_some, Option.toList_some, Option.toList_none, List.cons_append, List.nil_append, nI_add, cb, nI_1]
theorem c_signed (R : isRow w q a us B.length) (H : holds us B) (hB : ∀ j, B.getD j 0 < 256) {p n : Nat} (hp : p < 2 ^ 20) (h1 : 1 ≤ n) (hn : n ≤ 8) : ex_call X 20 [.ref q, .int (nI p), .int (nI n)] w = some (some (.long (wdN B p n)), w) := by
  have rc := ex_rc_o R.1 R.2.2.2.2.1 (by decide)
  have cb := r_cellB (X := X) (i := p) R H (by omega)
  have lp := c_signedLoop (X := X) R H hB hp hn (n - 1) 1 (by omega)
  have lp : ex_go X 20 11 [(0, .ref q), (1, .int (nI p)), (2, .int (nI n)), (3, .long (wdN B p 1)), (5, .int 1)] [] w = _ := lp
  show ex_go X 20 0 [(0, .ref q), (1, .int (nI p)), (2, .int (nI n))] [] w = _
  simp (disch := first | assumption | decide) only [s20_0, s20_1, s20_2, s20_5, s20_6, s20_7, s20_8, s20_9, List.getElem?_cons_zero, List.getElem?_cons_succ, Option.bind_some, Option.toList_some, Option.toList_none, List.cons_append, List.nil_append, cb, wd1 (hB p), lp]
end SIGNED
/-- the other object while it tells; all its cells but those of the telling are as in w0 -/
def isTx (w0 w : ex_W) (m : Nat → Int32) (v : Int64) (t : List Nat) (ds bg ln : List Int32) : Prop := w.length = w0.length ∧ (∀ j, j ≠ 32 → j < 37 ∨ 40 < j → w[j]? = w0[j]?) ∧ w[32]? = some (.inl (8, mo (upd m 9 (nI t.length)) v)) ∧ (∃ xs : List Int32, w[37]? = some (.inr (0, xs)) ∧ holds xs t ∧ xs.length = 1000) ∧ w[38]? = some (.inr (0, ds)) ∧ ds.length = 20 ∧ w[39]? = some (.inr (1, bg)) ∧ bg.length = 121 ∧ w[40]? = some (.inr (0, ln)) ∧ ln.length = 121
/-- its block -/
def isBm (w0 : ex_W) (bs : List Int32) (B : List Nat) : Prop := w0[33]? = some (.inr (0, bs)) ∧ bs.length = 130 ∧ holds bs B ∧ (∀ j, B.getD j 0 < 256)
theorem upd_upd {m : Nat → Int32} {k : Nat} {x y : Int32} : upd (upd m k x) k y = upd m k y := by
  funext j
  unfold upd
  split <;> rfl
def opt (a : Nat) : List Nat := if a = 0 then [] else [a]
section TELL
variable {X : Option (List Int32)} {w0 w : ex_W} {m : Nat → Int32} {v : Int64} {t : List Nat} {ds bg ln bs : List Int32} {B : List Nat}
theorem tx_rc (S : isTx w0 w m v t ds bg ln) : ex_rc w 32 8 = true := ex_rc_o S.2.2.1 (by decide) (by decide)
theorem tx_B (S : isTx w0 w m v t ds bg ln) (Y : isBm w0 bs B) : isB w (upd m 9 (nI t.length)) v bs B := ⟨S.2.2.1, (S.2.1 33 (by decide) (by decide)).trans Y.1, Y.2⟩
theorem tx_g0 (S : isTx w0 w m v t ds bg ln) : ex_gf w 32 8 0 = some (.ref 33) := (ex_gf_i S.2.2.1).trans mo_0
theorem y_say {c : Nat} (S : isTx w0 w m v t ds bg ln) (h : t.length < 1000) : ∃ w2, ex_call X 109 [.ref 32, .int (nI c)] w = some (none, w2) ∧ isTx w0 w2 m v (t ++ [c]) ds bg ln := by
  obtain ⟨s1, s2, s3, ⟨xs, x1, x2, x3⟩, d1, d2, s6, s7, s8, s9⟩ := S
  have g8 : ex_gf w 32 8 8 = some (.ref 37) := (ex_gf_i s3).trans mo_8
  have g9 : ex_gf w 32 8 9 = some (.int (nI t.length)) := (ex_gf_i s3).trans (by rw [mo_9, pk_us])
  have as := ex_as_i (kd := 0) (n := t.length) (x := nI c) x1 (by omega) (by omega)
  have s3' : (w.set 37 (.inr (0, xs.set t.length (nI c))))[32]? = some (.inl (8, mo (upd m 9 (nI t.length)) v)) := ex_set_o (by decide) s3
  have g9' : ex_gf (w.set 37 (.inr (0, xs.set t.length (nI c)))) 32 8 9 = some (.int (nI t.length)) := (ex_gf_i s3').trans (by rw [mo_9, pk_us])
  have pf := ex_pf_i (k := 9) (v := .int (nI (t.length + 1))) s3' (by rw [mo_len]; decide)
  rw [mo_s9, upd_upd] at pf
  refine ⟨(w.set 37 (.inr (0, xs.set t.length (nI c)))).set 32 (.inl (8, mo (upd m 9 (nI (t.length + 1))) v)), ?_, ?_⟩
  · show ex_go X 109 0 [(0, .ref 32), (1, .int (nI c))] [] w = _
    simp (disch := first | assumption | decide) only [s109_0, s109_1, s109_4, s109_5, s109_8, s109_9, s109_10, s109_11, s109_12, s109_15, s109_16, s109_17, s109_20, g8, g9, List.getElem?_cons_zero, List.getElem?_cons_succ, Option.bind_some, Option.toList_some, Option.toList_none, List.cons_append, List.nil_append, as, g9', nI_1, pf]
  · have o : ∀ j, j ≠ 32 → j ≠ 37 → ((w.set 37 (.inr (0, xs.set t.length (nI c)))).set 32 (.inl (8, mo (upd m 9 (nI (t.length + 1))) v)))[j]? = w[j]? := by
      intro j a b
      rw [List.getElem?_set_ne (Ne.symm a), List.getElem?_set_ne (Ne.symm b)]
    have ln1 : (t ++ [c]).length = t.length + 1 := by rw [List.length_append, List.length_singleton]
    refine ⟨by rw [List.length_set, List.length_set]; exact s1, fun j a b => (o j a (by omega)).trans (s2 j a b), ?_, ⟨xs.set t.length (nI c), ex_set_o (by decide) (ex_set_s x1), holds_app x2 (by omega), by rw [List.length_set]; exact x3⟩, (o 38 (by decide) (by decide)).trans d1, d2, (o 39 (by decide) (by decide)).trans s6, s7, (o 40 (by decide) (by decide)).trans s8, s9⟩
    rw [ln1]
    exact ex_set_s s3'
theorem y_five {a b c d e : Nat} (S : isTx w0 w m v t ds bg ln) (h : t.length + 5 ≤ 1000) (ha : a < 2 ^ 20) (hb : b < 2 ^ 20) (hc : c < 2 ^ 20) (hd : d < 2 ^ 20) (he : e < 2 ^ 20) : ∃ w2, ex_call X 108 [.ref 32, .int (nI a), .int (nI b), .int (nI c), .int (nI d), .int (nI e)] w = some (none, w2) ∧ isTx w0 w2 m v (t ++ opt a ++ opt b ++ opt c ++ opt d ++ opt e) ds bg ln := by
  have ol : ∀ a, (opt a).length ≤ 1 := by
    intro a
    unfold opt
    split
    · exact Nat.zero_le _
    · exact Nat.le_refl _
  have one : ∀ (a : Nat) (t : List Nat) (w : ex_W), a < 2 ^ 20 → isTx w0 w m v t ds bg ln → t.length < 1000 → (nI a = 0 ∧ isTx w0 w m v (t ++ opt a) ds bg ln) ∨ (¬ nI a = 0 ∧ ∃ w2, ex_call X 109 [.ref 32, .int (nI a)] w = some (none, w2) ∧ isTx w0 w2 m v (t ++ opt a) ds bg ln) := by
    intro a t w ha S ht
    by_cases z : a = 0
    · refine Or.inl ⟨by rw [z]; rfl, ?_⟩
      unfold opt
      rw [if_pos z, List.append_nil]
      exact S
    · refine Or.inr ⟨nI_ne0 (by omega) (by omega), ?_⟩
      unfold opt
      rw [if_neg z]
      exact y_say S ht
  have st1 : ∃ w2, ex_call X 108 [.ref 32, .int (nI a), .int (nI b), .int (nI c), .int (nI d), .int (nI e)] w = ex_go X 108 9 [(0, .ref 32), (2, .int (nI b)), (3, .int (nI c)), (4, .int (nI d)), (5, .int (nI e))] [] w2 ∧ isTx w0 w2 m v (t ++ opt a) ds bg ln := by
    show ∃ w2, ex_go X 108 0 [(0, .ref 32), (1, .int (nI a)), (2, .int (nI b)), (3, .int (nI c)), (4, .int (nI d)), (5, .int (nI e))] [] w = _ ∧ _
    have rc := tx_rc S
    rcases one a t w ha S (by omega) with ⟨z, S1⟩ | ⟨z, w1, a1, S1⟩
    · exact ⟨w, by simp (disch := first | assumption | decide) only [s108_0, s108_1, s108_4, s108_5, s108_6, if_pos z], S1⟩
    · exact ⟨w1, by simp (disch := first | assumption | decide) only [s108_0, s108_1, s108_4, s108_5, s108_6, if_neg z, a1, List.getElem?_cons_zero, List.getElem?_cons_succ, Option.bind_some, Option.toList_some, Option.toList_none, List.cons_append, List.nil_append], S1⟩
  obtain ⟨w1, a1, S1⟩ := st1
  have l1 := ol a
  have st2 : ∃ w2, ex_go X 108 9 [(0, .ref 32), (2, .int (nI b)), (3, .int (nI c)), (4, .int (nI d)), (5, .int (nI e))] [] w1 = ex_go X 108 18 [(0, .ref 32), (3, .int (nI c)), (4, .int (nI d)), (5, .int (nI e))] [] w2 ∧ isTx w0 w2 m v (t ++ opt a ++ opt b) ds bg ln := by
    have rc := tx_rc S1
    rcases one b _ w1 hb S1 (by simp only [List.length_append]; omega) with ⟨z, S2⟩ | ⟨z, w2, a2, S2⟩
    · exact ⟨w1, by simp (disch := first | assumption | decide) only [s108_9, s108_10, s108_13, s108_14, s108_15, if_pos z], S2⟩
    · exact ⟨w2, by simp (disch := first | assumption | decide) only [s108_9, s108_10, s108_13, s108_14, s108_15, if_neg z, a2, List.getElem?_cons_zero, List.getElem?_cons_succ, Option.bind_some, Option.toList_some, Option.toList_none, List.cons_append, List.nil_append], S2⟩
  obtain ⟨w2, a2, S2⟩ := st2
  have l2 := ol b
  have st3 : ∃ w3, ex_go X 108 18 [(0, .ref 32), (3, .int (nI c)), (4, .int (nI d)), (5, .int (nI e))] [] w2 = ex_go X 108 27 [(0, .ref 32), (4, .int (nI d)), (5, .int (nI e))] [] w3 ∧ isTx w0 w3 m v (t ++ opt a ++ opt b ++ opt c) ds bg ln := by
    have rc := tx_rc S2
    rcases one c _ w2 hc S2 (by simp only [List.length_append]; omega) with ⟨z, S3⟩ | ⟨z, w3, a3, S3⟩
    · exact ⟨w2, by simp (disch := first | assumption | decide) only [s108_18, s108_19, s108_22, s108_23, s108_24, if_pos z], S3⟩
    · exact ⟨w3, by simp (disch := first | assumption | decide) only [s108_18, s108_19, s108_22, s108_23, s108_24, if_neg z, a3, List.getElem?_cons_zero, List.getElem?_cons_succ, Option.bind_some, Option.toList_some, Option.toList_none, List.cons_append, List.nil_append], S3⟩
  obtain ⟨w3, a3, S3⟩ := st3
  have l3 := ol c
  have st4 : ∃ w4, ex_go X 108 27 [(0, .ref 32), (4, .int (nI d)), (5, .int (nI e))] [] w3 = ex_go X 108 38 [(0, .ref 32), (5, .int (nI e))] [] w4 ∧ isTx w0 w4 m v (t ++ opt a ++ opt b ++ opt c ++ opt d) ds bg ln := by
    have rc := tx_rc S3
    rcases one d _ w3 hd S3 (by simp only [List.length_append]; omega) with ⟨z, S4⟩ | ⟨z, w4, a4, S4⟩
    · exact ⟨w3, by simp (disch := first | assumption | decide) only [s108_27, s108_29, s108_32, s108_33, s108_35, if_pos z], S4⟩
    · exact ⟨w4, by simp (disch := first | assumption | decide) only [s108_27, s108_29, s108_32, s108_33, s108_35, if_neg z, a4, List.getElem?_cons_zero, List.getElem?_cons_succ, Option.bind_some, Option.toList_some, Option.toList_none, List.cons_append, List.nil_append], S4⟩
  obtain ⟨w4, a4, S4⟩ := st4
  have l4 := ol d
  rw [a1, a2, a3, a4]
  have rc := tx_rc S4
  rcases one e _ w4 he S4 (by simp only [List.length_append]; omega) with ⟨z, S5⟩ | ⟨z, w5, a5, S5⟩
  · exact ⟨w4, by simp (disch := first | assumption | decide) only [s108_38, s108_40, s108_43, s108_44, s108_46, s108_49, if_pos z], S5⟩
  · exact ⟨w5, by simp (disch := first | assumption | decide) only [s108_38, s108_40, s108_43, s108_44, s108_46, s108_49, if_neg z, a5, List.getElem?_cons_zero, List.getElem?_cons_succ, Option.bind_some, Option.toList_some, Option.toList_none, List.cons_append, List.nil_append], S5⟩
end TELL
