/-! the class reads a code -/
def codP (S : List Nat) : Nat → Nat → Nat → List Nat → List Nat → NM → PR
  | 0, _, _, _, _, _ => .inl 0
  | k + 1, p, b0, Y, ls, ns => if wd S p = txN 8 then (match stl ls ns Y with
      | some Y2 => .inr (wT S p, Y2)
      | none => .inl (wF S p)) else match rdL S p with
      | some N => if N = ls.length then codP S k (wT S p) b0 Y (ls ++ [Y.length]) ns else .inl (wF S p)
      | none => match insP S p (b0 + Y.length) Y.length with
        | .inl f => .inl f
        | .inr (t, xs, n) => codP S k t b0 (Y ++ xs) ls (ns ++ n)
/-- a place where a word may end -/
def wE (S : List Nat) (p : Nat) : Prop := p < S.length → gapC (S.getD p 0)
theorem skW_E {S : List Nat} : ∀ (k p : Nat), p + k = S.length → wE S (skW S k p) := by
  intro k
  induction k with
  | zero => intro p hp h; rw [skW] at h; omega
  | succ k ih =>
    intro p hp
    rw [skW]
    by_cases c : gapC (S.getD p 0)
    · rw [if_pos c]; exact fun _ => c
    · rw [if_neg c]; exact ih (p + 1) (by omega)
theorem wT_E {S : List Nat} {p : Nat} (hp : p ≤ S.length) : wE S (wT S p) := by
  have := w_b hp
  exact skW_E _ _ (by omega)
theorem dss_E {S : List Nat} {o : Nat} : ∀ (k p b y t : Nat) (xs : List Nat) (n : NM), p ≤ S.length → wE S p → dssP S k p b o y = .inr (t, xs, n) → wE S t := by
  intro k
  induction k with
  | zero => intro p b y t xs n _ hE h; rw [dssP] at h; cases h; exact hE
  | succ k ih =>
    intro p b y t xs n hp hE h
    rw [dssP] at h
    split at h
    next => cases h
    next xs1 n1 e =>
      split at h
      next => cases h
      next t2 ys n2 e2 =>
        cases h
        exact ih _ _ _ _ _ _ (w_b hp).2.2.1 (wT_E hp) e2
theorem ins_E {S : List Nat} {p b y t : Nat} {xs : List Nat} {n : NM} (hp : p ≤ S.length) (h : insP S p b y = .inr (t, xs, n)) : wE S t := by
  have wb := w_b hp
  unfold insP at h
  split at h
  next c =>
    split at h
    next => cases h
    next t1 xs1 e1 =>
      have a := arg_len wb.2.2.1 e1
      have hE : wE S t1 := by
        have o1 : ∀ (q : Option (List Nat)), one S (wT S p) q = .inr (t1, xs1) → wE S t1 := by
          intro q h
          unfold one at h
          split at h
          next => cases h; exact wT_E wb.2.2.1
          next => cases h
        unfold argP at e1
        split at e1
        · exact o1 _ e1
        · split at e1
          · exact o1 _ e1
          · cases e1; exact wT_E hp
      split at h
      next => cases h
      next t2 ys n2 e2 =>
        cases h
        exact dss_E _ _ _ _ _ _ _ a.2.2.1 hE e2
  next => cases h
/-- the number of lines @K stays small -/
def lnJ (S : List Nat) (J : Nat → Nat → Prop) : Prop := (∀ p, J p 0) ∧ (∀ p q l, p ≤ q → J p l → J q l) ∧ ∀ p l, p ≤ S.length → wE S p → J p l → rdL S p = some l → l < 64 ∧ J (wT S p) (l + 1)
theorem wd_ne {S : List Nat} {p : Nat} (hp : p ≤ S.length) (h : ¬ wd S p = []) : wF S p < wT S p := by
  have wb := w_b hp
  have wl := wd_len hp
  by_cases c : wF S p < wT S p
  · exact c
  · exact absurd (List.eq_nil_of_length_eq_zero (by omega)) h
theorem wd_0 {S : List Nat} {p c : Nat} {r : List Nat} (hp : p ≤ S.length) (h : wd S p = c :: r) : S.getD (wF S p) 0 = c ∧ wF S p < wT S p := by
  have lt := wd_ne hp (by rw [h]; exact fun z => by cases z)
  have := wd_get (S := S) (p := p) (i := 0) (by omega)
  rw [h, Nat.add_zero] at this
  exact ⟨this.symm, lt⟩
theorem rdL_lt {S : List Nat} {p N : Nat} (hp : p ≤ S.length) (h : rdL S p = some N) : wF S p < wT S p := by
  unfold rdL at h
  split at h
  next c =>
    by_cases e : wF S p < wT S p
    · exact e
    · have := getD_end hp e
      omega
  next => cases h
theorem opN_lt {S : List Nat} {p : Nat} (hp : p ≤ S.length) (h : opN S p ≤ 10) : wF S p < wT S p := by
  by_cases e : wF S p < wT S p
  · exact e
  · have wl := wd_len hp
    have wb := w_b hp
    have e0 : wd S p = [] := List.eq_nil_of_length_eq_zero (by omega)
    have : ∀ k i, i + k ≤ 11 → opL S p k i = 11 := by
      intro k
      induction k with
      | zero => intro i _; rfl
      | succ k ih =>
        intro i hi
        rw [opL, e0, if_neg]
        · have := ih (i + 1) (by omega)
          exact this
        · have : ∀ i, i < 11 → ¬ ([] : List Nat) = txN (22 + i) := by decide +kernel
          exact this i (by omega)
    unfold opN at h
    rw [this 11 0 (by omega)] at h
    omega
theorem raw_no {S : List Nat} {p b y : Nat} (hp : p ≤ S.length) (h : wd S p = txN 9) : rdL S p = none ∧ insP S p b y = .inl (wF S p) := by
  have e9 : txN 9 = 114 :: [97, 119] := by decide +kernel
  have h2 := h
  rw [e9] at h2
  have c := wd_0 hp h2
  refine ⟨?_, ?_⟩
  · unfold rdL
    rw [c.1, if_neg (by decide)]
  · have : ∀ k i, i + k ≤ 11 → opL S p k i = 11 := by
      intro k
      induction k with
      | zero => intro i _; rfl
      | succ k ih =>
        intro i hi
        rw [opL, h, if_neg]
        · have := ih (i + 1) (by omega)
          exact this
        · have : ∀ i, i < 11 → ¬ txN 9 = txN (22 + i) := by decide +kernel
          exact this i (by omega)
    unfold insP
    have e : opN S p = 11 := this 11 0 (by omega)
    rw [e, if_neg (by omega)]
def isTR (w0 : ex_W) (R L : Nat) (S : List Nat) : Prop := w0[R]? = some (.inl (1, [.ref L, .int (nI S.length)])) ∧ (R < 5 ∨ 14 < R) ∧ R < 1000
section CODE4
variable {X : Option (List Int32)} {w0 w : ex_W} {L R : Nat} {S : List Nat} {p : Nat} {v : Int64} {M : List Nat} {pt cc br ic hl hr cs : Int32} {ls : List Nat} {ns : NM}
theorem tr_used (T : isTR w0 R L S) (K : isMk w0 w L S p v M pt cc br ic hl hr cs ls ns) : ex_gf w R 1 1 = some (.int (nI S.length)) := ex_gf_i ((K.2.1 R (by have := T.2.1; omega)).trans T.1)
/-- the maker stops -/
theorem c_stop {f i : Nat} (T : isTR w0 R L S) (F : isMf w0 w L S f) : ex_go X 41 20 [(0, .ref 5), (1, .ref R), (2, .int 0), (3, .int (nI i))] [] w = some (some (.int (nI f)), w) := by
  have hR := T.2.2
  obtain ⟨p, v, M, q1, q2, q3, q4, q5, q6, q7, q8, q9, K, hp, hf⟩ := F
  have st := w_start (mk_W K)
  rw [hf] at st
  by_cases e : nI S.length ≤ nI i
  · simp (disch := first | assumption | decide) only [s41_20, s41_21, s41_22, s41_25, s41_67, s41_68, s41_71, s41_72, s41_75, s41_78, s41_79, s41_82, s41_85, tr_used T K, List.getElem?_cons_zero, List.getElem?_cons_succ, Option.bind_some, Option.toList_some, Option.toList_none, List.cons_append, List.nil_append, not_true_eq_false, if_false, if_true, if_pos e, mk_g K, st]
  · simp (disch := first | assumption | decide) only [s41_20, s41_21, s41_22, s41_25, s41_28, s41_29, s41_67, s41_68, s41_71, s41_72, s41_75, s41_78, s41_79, s41_82, s41_85, tr_used T K, List.getElem?_cons_zero, List.getElem?_cons_succ, Option.bind_some, Option.toList_some, Option.toList_none, List.cons_append, List.nil_append, not_true_eq_false, if_false, if_true, if_neg e, mk_g K, st]
/-- one turn of the maker's loop -/
theorem c_turnC {i : Nat} {r : Int32} {w2 : ex_W} (T : isTR w0 R L S) (E : isEn w0 L S) (K : isMk w0 w L S p v M pt cc br 1 hl hr cs ls ns) (hp : p ≤ S.length) (hi : i ≤ p) (hw : wF S p < wT S p) (h : ex_call X 44 [.ref 5] w = some (some (.int r), w2)) : ex_go X 41 20 [(0, .ref 5), (1, .ref R), (2, .int 1), (3, .int (nI i))] [] w = ex_go X 41 20 [(0, .ref 5), (1, .ref R), (2, .int r), (3, .int (nI (i + 1)))] [] w2 := by
  have hR := T.2.2
  have wb := w_b hp
  have hl0 := lt_len E.1
  have r5 := mk_r5 K
  have r8 := mk_r8 K
  have n1 : ¬ (1 : Int32) = 0 := by decide
  have e : ¬ nI S.length ≤ nI i := nI_ge (by omega) (by omega)
  have it := w_isThere (X := X) (mk_W K) (mk_T K E) hp
  rw [if_pos hw] at it
  rw [s41_20]
  simp (disch := first | assumption | decide) only [s41_21, s41_22, s41_25, s41_28, s41_29, s41_32, s41_33, s41_36, s41_39, s41_42, s41_43, s41_46, s41_49, s41_50, s41_53, s41_56, s41_57, s41_60, s41_61, s41_64, tr_used T K, List.getElem?_cons_zero, List.getElem?_cons_succ, Option.bind_some, Option.toList_some, Option.toList_none, List.cons_append, List.nil_append, not_true_eq_false, if_false, if_true, if_neg e, if_neg n1, mk_g K, it, h, nI_1]
theorem c_turnI {i : Nat} {r : Int32} {w2 : ex_W} (T : isTR w0 R L S) (E : isEn w0 L S) (K : isMk w0 w L S p v M pt cc br 0 hl hr cs ls ns) (hp : p ≤ S.length) (hi : i ≤ p) (hw : wF S p < wT S p) (h : ex_call X 55 [.ref 5] w = some (some (.int r), w2)) : ex_go X 41 20 [(0, .ref 5), (1, .ref R), (2, .int 1), (3, .int (nI i))] [] w = ex_go X 41 20 [(0, .ref 5), (1, .ref R), (2, .int r), (3, .int (nI (i + 1)))] [] w2 := by
  have hR := T.2.2
  have wb := w_b hp
  have hl0 := lt_len E.1
  have r5 := mk_r5 K
  have r8 := mk_r8 K
  have n1 : ¬ (1 : Int32) = 0 := by decide
  have e : ¬ nI S.length ≤ nI i := nI_ge (by omega) (by omega)
  have it := w_isThere (X := X) (mk_W K) (mk_T K E) hp
  rw [if_pos hw] at it
  rw [s41_20]
  simp (disch := first | assumption | decide) only [s41_21, s41_22, s41_25, s41_28, s41_29, s41_32, s41_33, s41_36, s41_39, s41_42, s41_43, s41_46, s41_49, s41_50, s41_53, s41_56, s41_57, s41_60, s41_61, s41_64, tr_used T K, List.getElem?_cons_zero, List.getElem?_cons_succ, Option.bind_some, Option.toList_some, Option.toList_none, List.cons_append, List.nil_append, not_true_eq_false, if_false, if_true, if_neg e, if_neg n1, mk_g K, it, h, nI_1]
/-- no word is left in a code -/
theorem c_endC {i : Nat} (T : isTR w0 R L S) (E : isEn w0 L S) (K : isMk w0 w L S p v M pt cc br 1 hl hr cs ls ns) (hp : p ≤ S.length) (hw : ¬ wF S p < wT S p) : ex_go X 41 20 [(0, .ref 5), (1, .ref R), (2, .int 1), (3, .int (nI i))] [] w = some (some (.int (nI (wF S p))), w) := by
  have hR := T.2.2
  have r5 := mk_r5 K
  have r8 := mk_r8 K
  have n1 : ¬ (1 : Int32) = 0 := by decide
  have it := w_isThere (X := X) (mk_W K) (mk_T K E) hp
  rw [if_neg hw] at it
  have st := w_start (mk_W K)
  by_cases e : nI S.length ≤ nI i
  · simp (disch := first | assumption | decide) only [s41_20, s41_21, s41_22, s41_25, s41_67, s41_68, s41_71, s41_72, s41_75, s41_78, s41_79, s41_82, s41_85, tr_used T K, List.getElem?_cons_zero, List.getElem?_cons_succ, Option.bind_some, Option.toList_some, Option.toList_none, List.cons_append, List.nil_append, not_true_eq_false, if_false, if_true, if_pos e, mk_g K, st, if_neg n1]
  · simp (disch := first | assumption | decide) only [s41_20, s41_21, s41_22, s41_25, s41_28, s41_29, s41_32, s41_33, s41_36, s41_39, s41_67, s41_68, s41_71, s41_72, s41_75, s41_78, s41_79, s41_82, s41_85, tr_used T K, List.getElem?_cons_zero, List.getElem?_cons_succ, Option.bind_some, Option.toList_some, Option.toList_none, List.cons_append, List.nil_append, not_true_eq_false, if_false, if_true, if_neg e, mk_g K, st, if_neg n1, it]
theorem c_endI {i : Nat} (T : isTR w0 R L S) (E : isEn w0 L S) (K : isMk w0 w L S p v M pt cc br 0 hl hr cs ls ns) (hp : p ≤ S.length) (hw : ¬ wF S p < wT S p) : ex_go X 41 20 [(0, .ref 5), (1, .ref R), (2, .int 1), (3, .int (nI i))] [] w = ex_go X 41 86 [(0, .ref 5)] [] w := by
  have hR := T.2.2
  have r5 := mk_r5 K
  have r8 := mk_r8 K
  have n1 : ¬ (1 : Int32) = 0 := by decide
  have it := w_isThere (X := X) (mk_W K) (mk_T K E) hp
  rw [if_neg hw] at it
  by_cases e : nI S.length ≤ nI i
  · simp (disch := first | assumption | decide) only [s41_20, s41_21, s41_22, s41_25, s41_67, s41_68, s41_71, s41_72, s41_75, tr_used T K, List.getElem?_cons_zero, List.getElem?_cons_succ, Option.bind_some, Option.toList_some, Option.toList_none, List.cons_append, List.nil_append, not_true_eq_false, if_false, if_true, if_pos e, mk_g K, if_neg n1]
  · simp (disch := first | assumption | decide) only [s41_20, s41_21, s41_22, s41_25, s41_28, s41_29, s41_32, s41_33, s41_36, s41_39, s41_67, s41_68, s41_71, s41_72, s41_75, tr_used T K, List.getElem?_cons_zero, List.getElem?_cons_succ, Option.bind_some, Option.toList_some, Option.toList_none, List.cons_append, List.nil_append, not_true_eq_false, if_false, if_true, if_neg e, mk_g K, if_neg n1, it]
theorem map_sh_mem {st : Nat} {ns : NM} {Y : List Nat} (h : ∀ n, n ∈ ns → n.2.2 + 1 < Y.length) {pre : List Nat} (hp : pre.length = st) : ∀ n, n ∈ ns.map (sh st) → n.2.2 + 1 < (pre ++ Y).length := by
  intro n hn
  obtain ⟨m, hm, e⟩ := List.mem_map.mp hn
  have := h m hm
  rw [← e, List.length_append]
  show st + m.2.2 + 1 < _
  omega
theorem c_codeLoop {J : Nat → Nat → Prop} {b0 c : Nat} {pre : List Nat} (T : isTR w0 R L S) (E : isEn w0 L S) (hJ : lnJ S J) (hpre : pre.length = c + 1) (hb0 : pre.length ≤ b0) : ∀ (k i p : Nat) (v : Int64) (Y ls : List Nat) (ns : NM) (hl : Int32) (w : ex_W), S.length - p < k → i ≤ p → p ≤ S.length → isMk w0 w L S p v (pre ++ Y) pt cc (nI (b0 + Y.length)) 1 hl 0 (nI c) ls (ns.map (sh (c + 1))) → (hl = 1 ∨ ¬ wd S p = txN 9) → (hl = 0 ∨ hl = 1) → b0 + Y.length ≤ 120 → 2 * ns.length ≤ Y.length → (∀ n, n ∈ ns → n.2.2 + 1 < Y.length) → wE S p → J p ls.length → (∀ t Y2, codP S k p b0 Y ls ns = .inr (t, Y2) → ∃ i2 v2 hl2 ls2 ns2 w2, ex_go X 41 20 [(0, .ref 5), (1, .ref R), (2, .int 1), (3, .int (nI i))] [] w = ex_go X 41 20 [(0, .ref 5), (1, .ref R), (2, .int 1), (3, .int (nI i2))] [] w2 ∧ i2 ≤ t ∧ t ≤ S.length ∧ p < t ∧ isMk w0 w2 L S t v2 ((pre ++ Y2).set c Y2.length) pt cc (nI (b0 + Y2.length)) 0 hl2 0 (nI c) ls2 ns2 ∧ b0 + Y2.length ≤ 120) ∧ (∀ f, codP S k p b0 Y ls ns = .inl f → ∃ w2, ex_go X 41 20 [(0, .ref 5), (1, .ref R), (2, .int 1), (3, .int (nI i))] [] w = some (some (.int (nI f)), w2) ∧ isMf w0 w2 L S f) := by
  have n1 : ¬ (1 : Int32) = 0 := by decide
  intro k
  induction k with
  | zero => intro i p v Y ls ns hl w h; omega
  | succ k ih =>
    intro i p v Y ls ns hl w hk hi hp K hraw hlv hb hns hcl hE hj
    have wb := w_b hp
    have r5 := mk_r5 K
    have r8 := mk_r8 K
    have hM : (pre ++ Y).length ≤ b0 + Y.length := by rw [List.length_append]; omega
    have hy : (pre ++ Y).length = c + 1 + Y.length := by rw [List.length_append]; omega
    have i8 : ex_call X 89 [.ref 8, .ref 1009] w = _ := c_is (X := X) (j := 8) (by decide) K E hp
    have i9 : ex_call X 89 [.ref 8, .ref 1010] w = _ := c_is (X := X) (j := 9) (by decide) K E hp
    rw [codP]
    by_cases c8 : wd S p = txN 8
    · -- the end of the code
      have hw : wF S p < wT S p := wd_ne hp (by rw [c8]; decide +kernel)
      rw [if_pos c8] at i8
      rw [if_pos c8]
      have cl := c_closeCode (X := X) (y := Y.length) K E hp hy (map_sh_mem hcl hpre)
      have sa := stl_app (ls := ls) (pre := pre) ns Y
      rw [hpre] at sa
      have sa : stl ls (ns.map (sh (c + 1))) (pre ++ Y) = (stl ls ns Y).map (fun Z => pre ++ Z) := sa
      cases hs : stl ls ns Y with
      | some Y2 =>
        rw [hs] at sa
        obtain ⟨w2, a2, K2⟩ := cl.1 (pre ++ Y2) sa
        have l2 := stl_len ns Y Y2 hs
        have cc0 : ex_call X 44 [.ref 5] w = some (some (.int 1), w2) := by
          show ex_go X 44 0 [(0, .ref 5)] [] w = _
          simp (disch := first | assumption | decide) only [s44_0, s44_1, s44_4, s44_6, s44_9, s44_12, s44_13, s44_16, mk_g K, List.getElem?_cons_zero, List.getElem?_cons_succ, Option.bind_some, Option.toList_some, Option.toList_none, List.cons_append, List.nil_append, not_true_eq_false, if_false, if_true, i8, if_neg n1, a2]
        refine ⟨fun t Y3 z => ?_, fun f z => (by cases z)⟩
        cases z
        rw [← l2] at K2
        exact ⟨i + 1, _, _, _, _, w2, c_turnC T E K hp hi hw cc0, by omega, wb.2.2.1, by omega, K2, by omega⟩
      | none =>
        rw [hs] at sa
        obtain ⟨w2, a2, F2⟩ := cl.2 sa
        have cc0 : ex_call X 44 [.ref 5] w = some (some (.int 0), w2) := by
          show ex_go X 44 0 [(0, .ref 5)] [] w = _
          simp (disch := first | assumption | decide) only [s44_0, s44_1, s44_4, s44_6, s44_9, s44_12, s44_13, s44_16, mk_g K, List.getElem?_cons_zero, List.getElem?_cons_succ, Option.bind_some, Option.toList_some, Option.toList_none, List.cons_append, List.nil_append, not_true_eq_false, if_false, if_true, i8, if_neg n1, a2]
        refine ⟨fun t Y3 z => (by cases z), fun f z => ?_⟩
        cases z
        exact ⟨w2, by rw [c_turnC T E K hp hi hw cc0]; exact c_stop T F2, F2⟩
    · rw [if_neg c8] at i8
      rw [if_neg c8]
      by_cases hw : wF S p < wT S p
      · by_cases c9 : wd S p = txN 9
        · -- raw, too late
          have h1 : hl = 1 := by
            rcases hraw with z | z
            · exact z
            · exact absurd c9 z
          subst h1
          rw [if_pos c9] at i9
          have rn := raw_no (b := b0 + Y.length) (y := Y.length) hp c9
          rw [rn.1, rn.2]
          have rr : ex_call X 47 [.ref 5] w = some (some (.int 0), w) := by
            show ex_go X 47 0 [(0, .ref 5)] [] w = _
            simp (disch := first | assumption | decide) only [s47_0, s47_1, s47_4, s47_7, s47_8, mk_g K, List.getElem?_cons_zero, List.getElem?_cons_succ, Option.bind_some, Option.toList_some, Option.toList_none, List.cons_append, List.nil_append, not_true_eq_false, if_false, if_true, if_neg n1]
          have cc0 : ex_call X 44 [.ref 5] w = some (some (.int 0), w) := by
            show ex_go X 44 0 [(0, .ref 5)] [] w = _
            simp (disch := first | assumption | decide) only [s44_0, s44_1, s44_4, s44_6, s44_9, s44_12, s44_13, s44_16, s44_17, s44_18, s44_21, s44_24, s44_25, s44_26, s44_27, s44_30, s44_32, s44_35, s44_38, s44_39, s44_42, mk_g K, List.getElem?_cons_zero, List.getElem?_cons_succ, Option.bind_some, Option.toList_some, Option.toList_none, List.cons_append, List.nil_append, not_true_eq_false, if_false, if_true, i8, i9, if_neg n1, rr]
          refine ⟨fun t Y3 z => (by cases z), fun f z => ?_⟩
          cases z
          have F := mf_of K hp
          exact ⟨w, by rw [c_turnC T E K hp hi hw cc0]; exact c_stop T F, F⟩
        · rw [if_neg c9] at i9
          have K1 := mk_set (pt2 := pt) (cc2 := cc) (br2 := nI (b0 + Y.length)) (ic2 := 1) (hl2 := 1) (hr2 := 0) (cs2 := nI c) K
          have r81 := mk_r8 K1
          obtain ⟨w2, v2, r, a2, f2, W2, h2⟩ := w_isLabel (X := X) E.2.2 (mk_W K1) (mk_T K1 E)
          have K2 := mk_fr8 K1 f2 W2
          have r52 := mk_r5 K2
          rcases h2 with ⟨N, hr0, hN, hv⟩ | ⟨hr0, hN⟩
          · subst hr0
            subst hv
            rw [hN]
            have ln := c_readLabelLine (X := X) (N := N) (y := Y.length) K2 E hp hy (fun z => by
              rw [z] at hN
              exact (hJ.2.2 p ls.length hp hE hj hN).1)
            have hd : ∀ r3 w3, (r3 = 0 ∨ r3 = 1) → ex_call X 51 [.ref 5] w2 = some (some (.int r3), w3) → ex_call X 44 [.ref 5] w = some (some (.int r3), w3) := by
              intro r3 w3 hr3 h
              show ex_go X 44 0 [(0, .ref 5)] [] w = _
              simp (disch := first | assumption | decide) only [s44_0, s44_1, s44_4, s44_6, s44_9, s44_12, s44_13, s44_16, s44_17, s44_18, s44_21, s44_24, s44_25, s44_26, s44_27, s44_30, s44_32, s44_35, s44_38, s44_39, s44_42, s44_43, s44_44, s44_45, s44_48, s44_49, s44_52, s44_55, s44_58, s44_59, s44_62, s44_65, s44_66, s44_69, mk_g K, List.getElem?_cons_zero, List.getElem?_cons_succ, Option.bind_some, Option.toList_some, Option.toList_none, List.cons_append, List.nil_append, not_true_eq_false, if_false, if_true, i8, i9, mk_p7 K, mk_g K1, a2, if_neg n1, h]
            by_cases cN : N = ls.length
            · obtain ⟨w3, v3, a3, K3⟩ := ln.1 cN
              have hj2 : J (wT S p) (ls.length + 1) := by
                rw [cN] at hN
                exact (hJ.2.2 p ls.length hp hE hj hN).2
              have ihh := ih (i + 1) (wT S p) v3 Y (ls ++ [Y.length]) ns 1 w3 (by omega) (by omega) wb.2.2.1 K3 (Or.inl rfl) (Or.inr rfl) hb hns hcl (wT_E hp) (by rw [List.length_append, List.length_singleton]; exact hj2)
              have tn := c_turnC (X := X) T E K hp hi hw (hd 1 w3 (Or.inr rfl) a3)
              show (∀ t Y2, (if N = ls.length then codP S k (wT S p) b0 Y (ls ++ [Y.length]) ns else .inl (wF S p)) = .inr (t, Y2) → _) ∧ (∀ f, (if N = ls.length then codP S k (wT S p) b0 Y (ls ++ [Y.length]) ns else .inl (wF S p)) = .inl f → _)
              rw [if_pos cN, tn]
              refine ⟨fun t Y2 z => ?_, ihh.2⟩
              obtain ⟨i2, v4, hl2, ls2, ns2, w4, b1, b2, b3, b4, b5⟩ := ihh.1 t Y2 z
              exact ⟨i2, v4, hl2, ls2, ns2, w4, b1, b2, b3, by omega, b5⟩
            · have a3 := ln.2 cN
              have tn := c_turnC (X := X) T E K hp hi hw (hd 0 w2 (Or.inl rfl) a3)
              show (∀ t Y2, (if N = ls.length then codP S k (wT S p) b0 Y (ls ++ [Y.length]) ns else .inl (wF S p)) = .inr (t, Y2) → _) ∧ (∀ f, (if N = ls.length then codP S k (wT S p) b0 Y (ls ++ [Y.length]) ns else .inl (wF S p)) = .inl f → _)
              rw [if_neg cN, tn]
              refine ⟨fun t Y3 z => (by cases z), fun f z => ?_⟩
              cases z
              have F := mf_of K2 hp
              exact ⟨w2, c_stop T F, F⟩
          · subst hr0
            rw [hN]
            have oi := c_readInstruction (X := X) (y := Y.length) K2 E hp hM hb hy (by rw [List.length_map]; omega)
            have hd : ∀ r3 w3, (r3 = 0 ∨ r3 = 1) → ex_call X 52 [.ref 5] w2 = some (some (.int r3), w3) → ex_call X 44 [.ref 5] w = some (some (.int r3), w3) := by
              intro r3 w3 hr3 h
              show ex_go X 44 0 [(0, .ref 5)] [] w = _
              simp (disch := first | assumption | decide) only [s44_0, s44_1, s44_4, s44_6, s44_9, s44_12, s44_13, s44_16, s44_17, s44_18, s44_21, s44_24, s44_25, s44_26, s44_27, s44_30, s44_32, s44_35, s44_38, s44_39, s44_42, s44_43, s44_44, s44_45, s44_48, s44_49, s44_52, s44_55, s44_58, s44_59, s44_62, s44_65, s44_66, s44_69, mk_g K, List.getElem?_cons_zero, List.getElem?_cons_succ, Option.bind_some, Option.toList_some, Option.toList_none, List.cons_append, List.nil_append, not_true_eq_false, if_false, if_true, i8, i9, mk_p7 K, mk_g K1, a2, h]
            show (∀ t Y2, (match insP S p (b0 + Y.length) Y.length with | .inl f => .inl f | .inr (t, xs, n) => codP S k t b0 (Y ++ xs) ls (ns ++ n)) = Sum.inr (t, Y2) → _) ∧ (∀ f, (match insP S p (b0 + Y.length) Y.length with | .inl f => .inl f | .inr (t, xs, n) => codP S k t b0 (Y ++ xs) ls (ns ++ n)) = Sum.inl f → _)
            cases hins : insP S p (b0 + Y.length) Y.length with
            | inl f =>
              obtain ⟨w3, a3, F3⟩ := oi.2 f hins
              refine ⟨fun t Y3 z => (by cases z), fun g z => ?_⟩
              cases z
              exact ⟨w3, by rw [c_turnC (X := X) T E K hp hi hw (hd 0 w3 (Or.inl rfl) a3)]; exact c_stop T F3, F3⟩
            | inr q =>
              obtain ⟨t, xs, n⟩ := q
              obtain ⟨w3, v3, a3, K3⟩ := oi.1 t xs n hins
              have ok := ins_ok hp hins
              have tn := c_turnC (X := X) T E K hp hi hw (hd 1 w3 (Or.inr rfl) a3)
              rw [List.append_assoc, ← List.map_append, Nat.add_assoc, ← List.length_append] at K3
              have ihh := ih (i + 1) t v3 (Y ++ xs) ls (ns ++ n) 1 w3 (by omega) (by omega) ok.2.2.2.2 K3 (Or.inl rfl) (Or.inr rfl) (by rw [List.length_append]; omega) (by rw [List.length_append, List.length_append]; omega) (fun m hm => by
                rw [List.length_append]
                rcases List.mem_append.mp hm with q | q
                · have := hcl m q
                  omega
                · have := ok.2.1 m q
                  omega) (ins_E hp hins) (hJ.2.1 p t _ (by omega) hj)
              rw [tn]
              refine ⟨fun t2 Y2 z => ?_, ihh.2⟩
              obtain ⟨i2, v4, hl2, ls2, ns2, w4, b1, b2, b3, b4, b5⟩ := ihh.1 t2 Y2 z
              exact ⟨i2, v4, hl2, ls2, ns2, w4, b1, b2, b3, by omega, b5⟩
      · -- no word is left
        have e0 : rdL S p = none := by
          cases hq : rdL S p with
          | none => rfl
          | some N => exact absurd (rdL_lt hp hq) hw
        have e1 : insP S p (b0 + Y.length) Y.length = .inl (wF S p) := by
          unfold insP
          rw [if_neg (fun z => hw (opN_lt hp z.1))]
        rw [e0, e1]
        refine ⟨fun t Y3 z => (by cases z), fun f z => ?_⟩
        cases z
        exact ⟨w, c_endC T E K hp hw, mf_of K hp⟩
end CODE4
