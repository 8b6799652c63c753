/-! entries, parts, lines -/
abbrev PR : Type := Nat ⊕ (Nat × List Nat)
def one (S : List Nat) (p : Nat) (o : Option (List Nat)) : PR := match o with
  | some xs => .inr (wT S p, xs)
  | none => .inl (wF S p)
/-- two readers, one behind the other -/
def andP (r : PR) (b : Nat) (k : Nat → Nat → PR) : PR := match r with
  | .inl f => .inl f
  | .inr (t, xs) => match k t (b + xs.length) with
    | .inl f => .inl f
    | .inr (t2, ys) => .inr (t2, xs ++ ys)
def bytP (S : List Nat) (p b : Nat) : PR := one S p (rNum S 0 255 1 p b)
def twoP (S : List Nat) (p b : Nat) : PR := andP (bytP S p b) b (bytP S)
def entP (S : List Nat) (kd p b : Nat) : PR := if kd = 1 then one S p (rNum S (-2147483648) 2147483647 4 p b) else if kd = 2 then one S p (rNam S p b) else if kd = 3 then twoP S p b else one S p (rNum S (-9223372036854775808) 9223372036854775807 8 p b)
theorem rNum_len {S : List Nat} {m M : Int64} {k p b : Nat} {xs : List Nat} (h : rNum S m M k p b = some xs) : xs.length = k ∧ b + k ≤ 120 ∧ ∀ j, xs.getD j 0 < 256 := by
  unfold rNum at h
  split at h
  next v e =>
    split at h
    next c =>
      cases h
      refine ⟨lowBy_len v k, c.2.2, ?_⟩
      have : ∀ k j, (lowBy v k).getD j 0 < 256 := by
        intro k
        induction k with
        | zero => intro j; rw [getD_out (Nat.zero_le _)]; decide
        | succ k ih =>
          intro j
          rw [lowBy]
          cases j with
          | zero => exact byt_lt v k
          | succ j => exact ih j
      exact this k
    next => cases h
  next => cases h
section MAKER3
variable {X : Option (List Int32)} {w0 w : ex_W} {L : Nat} {S : List Nat} {p : Nat} {v : Int64} {M : List Nat} {pt cc br ic hl hr cs : Int32} {ls : List Nat} {ns : List (Nat × Nat × Nat)}
/-- what a call of the maker does, by what the words say -/
def outM (w0 : ex_W) (L : Nat) (S : List Nat) (o : ex_O) (r : PR) (M : List Nat) (b : Nat) (pt cc ic hl hr cs : Int32) (ls : List Nat) (ns : List (Nat × Nat × Nat)) : Prop := (∀ t xs, r = .inr (t, xs) → ∃ w2 v2, o = some (some (.int 1), w2) ∧ isMk w0 w2 L S t v2 (M ++ xs) pt cc (nI (b + xs.length)) ic hl hr cs ls ns ∧ t ≤ S.length ∧ b + xs.length ≤ 120) ∧ (∀ f, r = .inl f → ∃ w2, o = some (some (.int 0), w2) ∧ isMf w0 w2 L S f)
theorem out_one {o : ex_O} {q : Option (List Nat)} {b : Nat} (hp : p ≤ S.length) (h1 : ∀ xs, q = some xs → ∃ w2 v2, o = some (some (.int 1), w2) ∧ isMk w0 w2 L S (wT S p) v2 (M ++ xs) pt cc (nI (b + xs.length)) ic hl hr cs ls ns ∧ b + xs.length ≤ 120) (h2 : q = none → ∃ w2, o = some (some (.int 0), w2) ∧ isMf w0 w2 L S (wF S p)) : outM w0 L S o (one S p q) M b pt cc ic hl hr cs ls ns := by
  unfold one
  cases q with
  | none =>
    refine ⟨fun t xs z => (by cases z), fun f z => ?_⟩
    cases z
    exact h2 rfl
  | some ys =>
    refine ⟨fun t xs z => ?_, fun f z => by cases z⟩
    cases z
    obtain ⟨w2, v2, a1, a2, a3⟩ := h1 ys rfl
    exact ⟨w2, v2, a1, a2, (w_b hp).2.2.1, a3⟩
theorem o_num {b k : Nat} {m Mx : Int64} (K : isMk w0 w L S p v M pt cc (nI b) ic hl hr cs ls ns) (E : isEn w0 L S) (hp : p ≤ S.length) (hM : M.length ≤ b) (hb : b ≤ 120) (hk : k < 2 ^ 20) (h1 : m.toInt ≤ 0) (h2 : 0 ≤ Mx.toInt) : outM w0 L S (ex_call X 53 [.ref 5, .long m, .long Mx, .int (nI k)] w) (one S p (rNum S m Mx k p b)) M b pt cc ic hl hr cs ls ns := by
  have h := c_readNumber (X := X) (k := k) (m := m) (Mx := Mx) K E hp hM hb hk h1 h2
  refine out_one hp (fun xs hx => ?_) h.2
  obtain ⟨w2, v2, a1, a2⟩ := h.1 xs hx
  have l := rNum_len hx
  rw [← l.1] at a2
  exact ⟨w2, v2, a1, a2, by omega⟩
theorem o_byte {b : Nat} (K : isMk w0 w L S p v M pt cc (nI b) ic hl hr cs ls ns) (E : isEn w0 L S) (hp : p ≤ S.length) (hM : M.length ≤ b) (hb : b ≤ 120) : outM w0 L S (ex_call X 60 [.ref 5] w) (bytP S p b) M b pt cc ic hl hr cs ls ns := by
  have h := c_readByte (X := X) K E hp hM hb
  refine out_one hp (fun xs hx => ?_) h.2
  obtain ⟨w2, v2, a1, a2⟩ := h.1 xs hx
  have l := rNum_len hx
  rw [← l.1] at a2
  exact ⟨w2, v2, a1, a2, by omega⟩
theorem o_hex {b cn : Nat} (hcn : cn = 0 ∨ cn = 1) (K : isMk w0 w L S p v M pt cc (nI b) ic hl hr cs ls ns) (E : isEn w0 L S) (hp : p ≤ S.length) (hM : M.length ≤ b) (hb : b ≤ 120) : outM w0 L S (ex_call X 48 [.ref 5, .int (nI cn)] w) (one S p (rHex S cn p b)) M b pt cc ic hl hr cs ls ns := by
  have h := c_readBytes (X := X) hcn K E hp hM hb
  refine out_one hp (fun xs hx => ?_) h.2
  obtain ⟨w2, a1, a2⟩ := h.1 xs hx
  refine ⟨w2, v, a1, a2, ?_⟩
  unfold rHex at hx
  split at hx
  next c =>
    cases hx
    rw [List.length_append, hexBs_len]
    rcases hcn with z | z <;> subst z
    · rw [if_pos rfl, List.length_nil]; omega
    · rw [if_neg (by decide), List.length_singleton]; omega
  next => cases hx
theorem o_nam {b : Nat} {o : ex_O} (K : isMk w0 w L S p v M pt cc (nI b) ic hl hr cs ls ns) (E : isEn w0 L S) (hp : p ≤ S.length) (hM : M.length ≤ b) (hb : b ≤ 120) (h1 : areB S p = true → o = ex_call X 48 [.ref 5, .int 1] w) (h2 : ¬ areB S p = true → o = ex_call X 59 [.ref 5] w) : outM w0 L S o (one S p (rNam S p b)) M b pt cc ic hl hr cs ls ns := by
  unfold rNam
  by_cases c : areB S p = true
  · rw [if_pos c, h1 c]
    exact o_hex (cn := 1) (Or.inr rfl) K E hp hM hb
  · rw [if_neg c, h2 c]
    have h := c_readQuoted (X := X) K E hp hM hb
    refine out_one hp (fun xs hx => ?_) h.2
    obtain ⟨w2, a1, a2⟩ := h.1 xs hx
    refine ⟨w2, v, a1, a2, ?_⟩
    unfold rQuo at hx
    split at hx
    next c =>
      cases hx
      rw [List.length_cons, rawL_len]
      omega
    next => cases hx
/-- the second reader is asked only behind the first -/
theorem out_and {o : ex_O} {r : PR} {k : Nat → Nat → PR} {b : Nat} {o1 : ex_O} (h1 : outM w0 L S o1 r M b pt cc ic hl hr cs ls ns) (hf : ∀ w2, o1 = some (some (.int 0), w2) → o = some (some (.int 0), w2)) (hs : ∀ w2 v2 t xs, o1 = some (some (.int 1), w2) → isMk w0 w2 L S t v2 (M ++ xs) pt cc (nI (b + xs.length)) ic hl hr cs ls ns → t ≤ S.length → b + xs.length ≤ 120 → outM w0 L S o (k t (b + xs.length)) (M ++ xs) (b + xs.length) pt cc ic hl hr cs ls ns) : outM w0 L S o (andP r b k) M b pt cc ic hl hr cs ls ns := by
  unfold andP
  cases r with
  | inl f =>
    refine ⟨fun t xs z => (by cases z), fun g z => ?_⟩
    cases z
    obtain ⟨w2, a1, a2⟩ := h1.2 f rfl
    exact ⟨w2, hf w2 a1, a2⟩
  | inr q =>
    obtain ⟨t, xs⟩ := q
    obtain ⟨w2, v2, a1, a2, a3, a4⟩ := h1.1 t xs rfl
    have h2 := hs w2 v2 t xs a1 a2 a3 a4
    show outM w0 L S o (match k t (b + xs.length) with | .inl f => .inl f | .inr (t2, ys) => .inr (t2, xs ++ ys)) M b pt cc ic hl hr cs ls ns
    cases hk : k t (b + xs.length) with
    | inl f =>
      rw [hk] at h2
      refine ⟨fun t xs z => (by cases z), fun g z => ?_⟩
      cases z
      exact h2.2 f rfl
    | inr q2 =>
      obtain ⟨t2, ys⟩ := q2
      rw [hk] at h2
      refine ⟨fun t3 zs z => ?_, fun g z => by cases z⟩
      cases z
      obtain ⟨w3, v3, b1, b2, b3, b4⟩ := h2.1 t2 ys rfl
      refine ⟨w3, v3, b1, ?_, b3, by rw [List.length_append]; omega⟩
      rw [List.length_append, ← Nat.add_assoc, ← List.append_assoc]
      exact b2
theorem c_readEntry {b kd : Nat} (hkd : 1 ≤ kd ∧ kd ≤ 4) (K : isMk w0 w L S p v M pt cc (nI b) ic hl hr cs ls ns) (E : isEn w0 L S) (hp : p ≤ S.length) (hM : M.length ≤ b) (hb : b ≤ 120) : (b + 1 ≤ 120 → outM w0 L S (ex_call X 58 [.ref 5, .int (nI kd)] w) (entP S kd (wT S p) (b + 1)) (M ++ [kd]) (b + 1) pt cc ic hl hr cs ls ns) ∧ (¬ b + 1 ≤ 120 → ∃ w2, ex_call X 58 [.ref 5, .int (nI kd)] w = some (some (.int 0), w2) ∧ isMf w0 w2 L S (wF S p)) := by
  have r5 := mk_r5 K
  have n1 : ¬ (1 : Int32) = 0 := by decide
  constructor
  · intro h1
    obtain ⟨w1, a1, K1⟩ := c_bring1 (X := X) (c := kd) (by omega) K hM h1
    have r81 := mk_r8 K1
    obtain ⟨w2, a2, K2⟩ := c_stepM (X := X) K1 E hp
    have r52 := mk_r5 K2
    have r82 := mk_r8 K2
    have hp2 := (w_b hp).2.2.1
    have hM2 : (M ++ [kd]).length ≤ b + 1 := by rw [List.length_append, List.length_singleton]; omega
    have hd : ex_call X 58 [.ref 5, .int (nI kd)] w = ex_go X 58 20 [(0, .ref 5), (1, .int (nI kd))] [.int (nI kd)] w2 := by
      show ex_go X 58 0 [(0, .ref 5), (1, .int (nI kd))] [] w = _
      simp (disch := first | assumption | decide) only [s58_0, s58_1, s58_2, s58_3, s58_4, s58_7, s58_10, s58_11, s58_12, s58_13, s58_16, s58_19, a1, List.getElem?_cons_zero, List.getElem?_cons_succ, Option.bind_some, Option.toList_some, Option.toList_none, List.cons_append, List.nil_append, not_true_eq_false, if_false, if_true, if_pos n1, mk_g K1, a2]
    rw [hd]
    unfold entP
    have cs4 : kd = 1 ∨ kd = 2 ∨ kd = 3 ∨ kd = 4 := by omega
    rcases cs4 with c | c | c | c <;> subst c
    · rw [if_pos rfl]
      have on := o_num (X := X) (k := 4) (m := -2147483648) (Mx := 2147483647) K2 E hp2 hM2 h1 (by decide) (by decide) (by decide)
      have e : ∀ r w3, (r = 0 ∨ r = 1) → ex_call X 53 [.ref 5, .long (-2147483648), .long 2147483647, .int 4] w2 = some (some (.int r), w3) → ex_go X 58 20 [(0, .ref 5), (1, .int (nI 1))] [.int (nI 1)] w2 = some (some (.int r), w3) := by
        intro r w3 hr0 h
        simp (disch := first | assumption | decide) only [s58_20, s58_48, s58_49, s58_52, s58_55, s58_56, s58_59, if_pos, if_neg, h, List.getElem?_cons_zero, List.getElem?_cons_succ, Option.bind_some, Option.toList_some, Option.toList_none, List.cons_append, List.nil_append, not_true_eq_false, if_false, if_true]
      refine ⟨fun t xs z => ?_, fun f z => ?_⟩
      · obtain ⟨w3, v3, b1, b2⟩ := on.1 t xs z
        exact ⟨w3, v3, e 1 w3 (Or.inr rfl) b1, b2⟩
      · obtain ⟨w3, b1, b2⟩ := on.2 f z
        exact ⟨w3, e 0 w3 (Or.inl rfl) b1, b2⟩
    · rw [if_neg (by decide), if_pos rfl]
      have ab := w_areBytes (X := X) E.2.2 (mk_W K2) (mk_T K2 E) hp2
      have on := o_nam (X := X) (o := if areB S (wT S p) = true then ex_call X 48 [.ref 5, .int 1] w2 else ex_call X 59 [.ref 5] w2) K2 E hp2 hM2 h1 (fun h => if_pos h) (fun h => if_neg h)
      have e : ∀ r w3, (r = 0 ∨ r = 1) → (if areB S (wT S p) = true then ex_call X 48 [.ref 5, .int 1] w2 else ex_call X 59 [.ref 5] w2) = some (some (.int r), w3) → ex_go X 58 20 [(0, .ref 5), (1, .int (nI 2))] [.int (nI 2)] w2 = some (some (.int r), w3) := by
        intro r w3 hr0 h
        by_cases c : areB S (wT S p) = true
        · rw [if_pos c] at h ab
          simp (disch := first | assumption | decide) only [s58_20, s58_60, s58_61, s58_64, s58_67, s58_70, s58_71, s58_72, s58_75, s58_78, s58_79, s58_82, if_pos, if_neg, mk_g K2, ab, h, List.getElem?_cons_zero, List.getElem?_cons_succ, Option.bind_some, Option.toList_some, Option.toList_none, List.cons_append, List.nil_append, not_true_eq_false, if_false, if_true]
        · rw [if_neg c] at h ab
          simp (disch := first | assumption | decide) only [s58_20, s58_60, s58_61, s58_64, s58_67, s58_70, s58_71, s58_72, s58_75, s58_78, s58_79, s58_82, if_pos, if_neg, mk_g K2, ab, h, List.getElem?_cons_zero, List.getElem?_cons_succ, Option.bind_some, Option.toList_some, Option.toList_none, List.cons_append, List.nil_append, not_true_eq_false, if_false, if_true]
      refine ⟨fun t xs z => ?_, fun f z => ?_⟩
      · obtain ⟨w3, v3, b1, b2⟩ := on.1 t xs z
        exact ⟨w3, v3, e 1 w3 (Or.inr rfl) b1, b2⟩
      · obtain ⟨w3, b1, b2⟩ := on.2 f z
        exact ⟨w3, e 0 w3 (Or.inl rfl) b1, b2⟩
    · rw [if_neg (by decide), if_neg (by decide), if_pos rfl]
      have on := o_num (X := X) (k := 1) (m := 0) (Mx := 255) K2 E hp2 hM2 h1 (by decide) (by decide) (by decide)
      refine out_and on ?_ ?_
      · intro w3 h
        have h : ex_call X 53 [.ref 5, .long 0, .long 255, .int 1] w2 = some (some (.int 0), w3) := h
        simp (disch := first | assumption | decide) only [s58_20, s58_83, s58_84, s58_85, s58_88, s58_89, s58_92, s58_95, s58_96, s58_97, s58_100, s58_101, s58_104, s58_107, s58_108, s58_111, s58_112, if_pos, if_neg, h, List.getElem?_cons_zero, List.getElem?_cons_succ, Option.bind_some, Option.toList_some, Option.toList_none, List.cons_append, List.nil_append, not_true_eq_false, if_false, if_true]
      · intro w3 v3 t xs h K3 ht hb3
        have h : ex_call X 53 [.ref 5, .long 0, .long 255, .int 1] w2 = some (some (.int 1), w3) := h
        have r53 := mk_r5 K3
        have on2 := o_num (X := X) (k := 1) (m := 0) (Mx := 255) K3 E ht (by rw [List.length_append]; omega) hb3 (by decide) (by decide) (by decide)
        have e : ∀ r w4, (r = 0 ∨ r = 1) → ex_call X 53 [.ref 5, .long 0, .long 255, .int 1] w3 = some (some (.int r), w4) → ex_go X 58 20 [(0, .ref 5), (1, .int (nI 3))] [.int (nI 3)] w2 = some (some (.int r), w4) := by
          intro r w4 hr0 h4
          rcases hr0 with z | z <;> subst z
          · simp (disch := first | assumption | decide) only [s58_20, s58_83, s58_84, s58_85, s58_88, s58_89, s58_92, s58_95, s58_96, s58_97, s58_100, s58_101, s58_104, s58_107, s58_108, s58_111, s58_112, if_pos, if_neg, h, List.getElem?_cons_zero, List.getElem?_cons_succ, Option.bind_some, Option.toList_some, Option.toList_none, List.cons_append, List.nil_append, not_true_eq_false, if_false, if_true, if_neg n1, h4]
          · simp (disch := first | assumption | decide) only [s58_20, s58_83, s58_84, s58_85, s58_88, s58_89, s58_92, s58_95, s58_96, s58_97, s58_100, s58_101, s58_104, s58_107, s58_108, s58_111, s58_112, if_pos, if_neg, h, List.getElem?_cons_zero, List.getElem?_cons_succ, Option.bind_some, Option.toList_some, Option.toList_none, List.cons_append, List.nil_append, not_true_eq_false, if_false, if_true, if_neg n1, h4]
        refine ⟨fun t xs z => ?_, fun f z => ?_⟩
        · obtain ⟨w4, v4, b1, b2⟩ := on2.1 t xs z
          exact ⟨w4, v4, e 1 w4 (Or.inr rfl) b1, b2⟩
        · obtain ⟨w4, b1, b2⟩ := on2.2 f z
          exact ⟨w4, e 0 w4 (Or.inl rfl) b1, b2⟩
    · rw [if_neg (by decide), if_neg (by decide), if_neg (by decide)]
      have on := o_num (X := X) (k := 8) (m := -9223372036854775808) (Mx := 9223372036854775807) K2 E hp2 hM2 h1 (by decide) (by decide) (by decide)
      have e : ∀ r w3, (r = 0 ∨ r = 1) → ex_call X 53 [.ref 5, .long (-9223372036854775808), .long 9223372036854775807, .int 8] w2 = some (some (.int r), w3) → ex_go X 58 20 [(0, .ref 5), (1, .int (nI 4))] [.int (nI 4)] w2 = some (some (.int r), w3) := by
        intro r w3 hr0 h
        simp (disch := first | assumption | decide) only [s58_20, s58_113, s58_114, s58_117, s58_120, s58_122, s58_125, if_pos, if_neg, h, List.getElem?_cons_zero, List.getElem?_cons_succ, Option.bind_some, Option.toList_some, Option.toList_none, List.cons_append, List.nil_append, not_true_eq_false, if_false, if_true]
      refine ⟨fun t xs z => ?_, fun f z => ?_⟩
      · obtain ⟨w3, v3, b1, b2⟩ := on.1 t xs z
        exact ⟨w3, v3, e 1 w3 (Or.inr rfl) b1, b2⟩
      · obtain ⟨w3, b1, b2⟩ := on.2 f z
        exact ⟨w3, e 0 w3 (Or.inl rfl) b1, b2⟩
  · intro h1
    have bn : ex_call X 50 [.ref 5, .long (nI kd).toInt64, .int 1] w = some (some (.int 0), w) := c_bringNo (X := X) (k := 1) (u := (nI kd).toInt64) K hb (by decide) h1
    refine ⟨w, ?_, mf_of K hp⟩
    show ex_go X 58 0 [(0, .ref 5), (1, .int (nI kd))] [] w = _
    simp (disch := first | assumption | decide) only [s58_0, s58_1, s58_2, s58_3, s58_4, s58_7, s58_10, s58_11, bn, List.getElem?_cons_zero, List.getElem?_cons_succ, Option.bind_some, Option.toList_some, Option.toList_none, List.cons_append, List.nil_append, not_true_eq_false, if_false, if_true]
theorem c_goLoop {np : Nat} : ∀ (k i : Nat) (M : List Nat) (pt cc : Int32) (w : ex_W), i + k = np + 1 → np ≤ 3 → isMk w0 w L S p v M pt cc br ic hl hr cs ls ns → M.length + k ≤ 120 → ∃ w2, ex_go X 43 7 [(0, .ref 5), (1, .int (nI np)), (2, .int (nI i))] [] w = some (none, w2) ∧ isMk w0 w2 L S p v (M ++ List.replicate k 0) (if k = 0 then pt else nI np) (if k = 0 then cc else nI (M.length + k - 1)) br ic hl hr cs ls ns := by
  intro k
  induction k with
  | zero =>
    intro i M pt cc w hi hnp K hM
    have e : nI np < nI i := nI_lt (by omega) (by omega)
    refine ⟨w, ?_, by rw [if_pos rfl, if_pos rfl]; exact (List.append_nil M).symm ▸ K⟩
    simp (disch := first | assumption | decide) only [s43_7, s43_8, s43_9, s43_42, if_pos e]
  | succ k ih =>
    intro i M pt cc w hi hnp K hM
    have e : ¬ nI np < nI i := nI_nlt (by omega) (by omega)
    have K1 := mk_set (pt2 := pt) (cc2 := nI M.length) (br2 := br) (ic2 := ic) (hl2 := hl) (hr2 := hr) (cs2 := cs) K
    have r61 := mk_r6 K1
    obtain ⟨w2, a2, K2⟩ := mk_app (X := X) (c := 0) K1 (by omega)
    have a2 : ex_call X 17 [.ref 6, .int 0] (w.set 5 (mk pt (nI M.length) br ic hl hr cs)) = some (none, w2) := a2
    have K3 := mk_set (pt2 := nI i) (cc2 := nI M.length) (br2 := br) (ic2 := ic) (hl2 := hl) (hr2 := hr) (cs2 := cs) K2
    obtain ⟨w4, a4, K4⟩ := ih (i + 1) _ (nI i) (nI M.length) _ (by omega) hnp K3 (by rw [List.length_append, List.length_singleton]; omega)
    refine ⟨w4, ?_, ?_⟩
    · rw [s43_7]
      simp (disch := first | assumption | decide) only [s43_8, s43_9, s43_12, s43_13, s43_14, s43_17, s43_20, s43_23, s43_24, s43_27, s43_28, s43_31, s43_32, s43_33, s43_36, s43_39, if_neg e, mk_g K, List.getElem?_cons_zero, List.getElem?_cons_succ, Option.bind_some, Option.toList_some, Option.toList_none, List.cons_append, List.nil_append, not_true_eq_false, if_false, if_true, mk_n K, mk_p4 K, mk_g K1, a2, mk_p3 K2, nI_1, a4]
    · rw [if_neg (by omega), if_neg (by omega)]
      rw [List.length_append, List.length_singleton, List.append_assoc] at K4
      have er : [0] ++ List.replicate k 0 = List.replicate (k + 1) 0 := rfl
      rw [er] at K4
      by_cases c : k = 0
      · subst c
        rw [if_pos rfl, if_pos rfl] at K4
        rw [show i = np by omega] at K4
        exact K4
      · rw [if_neg c, if_neg c] at K4
        rw [show M.length + 1 + k - 1 = M.length + (k + 1) - 1 by omega] at K4
        exact K4
/-- on to another part -/
theorem c_goToPart {q np : Nat} (hq : pt + 1 = nI q) (hnp : np ≤ 3) (hqn : q ≤ np + 1) (K : isMk w0 w L S p v M pt cc br ic hl hr cs ls ns) (hM : M.length + (np + 1 - q) ≤ 120) : ∃ w2, ex_call X 43 [.ref 5, .int (nI np)] w = some (none, w2) ∧ isMk w0 w2 L S p v (M ++ List.replicate (np + 1 - q) 0) (if np + 1 - q = 0 then pt else nI np) (if np + 1 - q = 0 then cc else nI (M.length + (np + 1 - q) - 1)) br ic hl hr cs ls ns := by
  obtain ⟨w2, a2, K2⟩ := c_goLoop (X := X) (np := np) (np + 1 - q) q M pt cc w (by omega) hnp K hM
  refine ⟨w2, ?_, K2⟩
  show ex_go X 43 0 [(0, .ref 5), (1, .int (nI np))] [] w = _
  simp (disch := first | assumption | decide) only [s43_0, s43_1, s43_4, s43_5, s43_6, mk_g K, List.getElem?_cons_zero, List.getElem?_cons_succ, Option.bind_some, Option.toList_some, Option.toList_none, List.cons_append, List.nil_append, not_true_eq_false, if_false, if_true, hq, a2]
end MAKER3
