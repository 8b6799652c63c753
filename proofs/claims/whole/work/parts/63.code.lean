/-! instructions as words -/
def opL (S : List Nat) (p : Nat) : Nat → Nat → Nat
  | 0, _ => 11
  | k + 1, i => if wd S p = txN (22 + i) then i else opL S p k (i + 1)
def opN (S : List Nat) (p : Nat) : Nat := opL S p 11 0
abbrev NM : Type := List (Nat × Nat × Nat)
def sh (st : Nat) (n : Nat × Nat × Nat) : Nat × Nat × Nat := (n.1, n.2.1, st + n.2.2)
def dstP (S : List Nat) (p b o y : Nat) : Option (List Nat × NM) := match rdL S p with
  | some N => if b + 2 ≤ 120 then some ([0, 0], [(N, o, y)]) else none
  | none => match rdD S p with
    | some v => if b + 2 ≤ 120 then some (lowBy v 2, []) else none
    | none => none
def dssP (S : List Nat) : Nat → Nat → Nat → Nat → Nat → Nat ⊕ (Nat × List Nat × NM)
  | 0, p, _, _, _ => .inr (p, [], [])
  | k + 1, p, b, o, y => match dstP S p b o y with
    | none => .inl (wF S p)
    | some (xs, n) => match dssP S k (wT S p) (b + 2) o (y + 2) with
      | .inl f => .inl f
      | .inr (t, ys, n2) => .inr (t, xs ++ ys, n ++ n2)
/-- how many distances -/
def dkN (op : Nat) (xs : List Nat) : Nat := if op = 6 ∨ op = 7 then 1 else if op = 10 then xs.getD 0 0 else 0
def argP (S : List Nat) (op p b : Nat) : PR := if op = 1 then one S p (rNum S (-128) 127 1 p b) else if op = 2 ∨ op = 8 ∨ op = 10 then one S p (rNum S 0 255 1 p b) else .inr (p, [])
def insP (S : List Nat) (p b y : Nat) : Nat ⊕ (Nat × List Nat × NM) := if opN S p ≤ 10 ∧ b + 1 ≤ 120 then (match argP S (opN S p) (wT S p) (b + 1) with
    | .inl f => .inl f
    | .inr (t, xs) => match dssP S (dkN (opN S p) xs) t (b + 1 + xs.length) y (y + 1 + xs.length) with
      | .inl f => .inl f
      | .inr (t2, ys, n) => .inr (t2, opN S p :: xs ++ ys, n)) else .inl (wF S p)
section CODE2
variable {X : Option (List Int32)} {w0 w : ex_W} {L : Nat} {S : List Nat} {p : Nat} {v : Int64} {M : List Nat} {pt cc br ic hl hr cs : Int32} {ls : List Nat} {ns : NM}
theorem c_opLoop (K : isMk w0 w L S p v M pt cc br ic hl hr cs ls ns) (E : isEn w0 L S) (hp : p ≤ S.length) : ∀ (k i : Nat), i + k = 11 → ex_go X 105 2 [(0, .ref 8), (1, .int (nI i))] [] w = some (some (.int (if opL S p k i ≤ 10 then nI (opL S p k i) else -1)), w) := by
  have r8 := mk_r8 K
  have n1 : ¬ (1 : Int32) = 0 := by decide
  intro k
  induction k with
  | zero =>
    intro i hi
    have e : 10 < nI i := nI_lt (a := 10) (by omega) (by omega)
    rw [opL, if_neg (by decide)]
    simp (disch := first | assumption | decide) only [s105_0, s105_1, s105_2, s105_3, s105_5, s105_8, s105_9, s105_10, s105_13, s105_16, s105_19, s105_20, s105_21, s105_24, s105_27, s105_28, if_pos e]
  | succ k ih =>
    intro i hi
    have e : ¬ 10 < nI i := nI_nlt (a := 10) (by omega) (by decide)
    have wo := c_wordOf (X := X) (w := w) (x := i) (by omega)
    have is := c_is (X := X) (j := 22 + i) (by omega) K E hp
    rw [opL, s105_2]
    by_cases c : wd S p = txN (22 + i)
    · rw [if_pos c] at is
      rw [if_pos c, if_pos (by omega)]
      simp (disch := first | assumption | decide) only [s105_0, s105_1, s105_3, s105_5, s105_8, s105_9, s105_10, s105_13, s105_16, s105_19, s105_20, s105_21, s105_24, s105_27, s105_28, if_neg e, wo, List.getElem?_cons_zero, List.getElem?_cons_succ, Option.bind_some, Option.toList_some, Option.toList_none, List.cons_append, List.nil_append, not_true_eq_false, if_false, if_true, is, if_neg n1]
    · rw [if_neg c] at is
      rw [if_neg c]
      simp (disch := first | assumption | decide) only [s105_0, s105_1, s105_3, s105_5, s105_8, s105_9, s105_10, s105_13, s105_16, s105_19, s105_20, s105_21, s105_24, s105_27, s105_28, if_neg e, wo, List.getElem?_cons_zero, List.getElem?_cons_succ, Option.bind_some, Option.toList_some, Option.toList_none, List.cons_append, List.nil_append, not_true_eq_false, if_false, if_true, is, nI_1, ih (i + 1) (by omega)]
theorem c_opOf (K : isMk w0 w L S p v M pt cc br ic hl hr cs ls ns) (E : isEn w0 L S) (hp : p ≤ S.length) : ex_call X 105 [.ref 8] w = some (some (.int (if opN S p ≤ 10 then nI (opN S p) else -1)), w) := by
  have lp := c_opLoop (X := X) K E hp 11 0 (by omega)
  have lp : ex_go X 105 2 [(0, .ref 8), (1, .int 0)] [] w = _ := lp
  show ex_go X 105 0 [(0, .ref 8)] [] w = _
  simp (disch := first | assumption | decide) only [s105_0, s105_1, lp]
  rfl
theorem lowBy0 : lowBy 0 2 = [0, 0] := by decide +kernel
theorem c_readDistance {b o y st : Nat} (K : isMk w0 w L S p v M pt cc (nI b) ic hl hr cs ls ns) (E : isEn w0 L S) (hp : p ≤ S.length) (hM : M.length ≤ b) (hb : b ≤ 120) (hy : M.length = st + y) (hns : 2 * ns.length ≤ M.length) : (∀ xs n, dstP S p b o y = some (xs, n) → ∃ w2 v2, ex_call X 54 [.ref 5, .int (nI o)] w = some (some (.int 1), w2) ∧ isMk w0 w2 L S (wT S p) v2 (M ++ xs) pt cc (nI (b + 2)) ic hl hr cs ls (ns ++ n.map (sh st)) ∧ b + 2 ≤ 120) ∧ (dstP S p b o y = none → ∃ w2, ex_call X 54 [.ref 5, .int (nI o)] w = some (some (.int 0), w2) ∧ isMf w0 w2 L S (wF S p)) := by
  have r8 := mk_r8 K
  have n1 : ¬ (1 : Int32) = 0 := by decide
  have h120 := mk_120 K
  obtain ⟨w1, v1, r, a1, f1, W1, h1⟩ := w_isLabel (X := X) E.2.2 (mk_W K) (mk_T K E)
  have K1 := mk_fr8 K f1 W1
  have r51 := mk_r5 K1
  have r81 := mk_r8 K1
  have hd : ex_call X 54 [.ref 5, .int (nI o)] w = ex_go X 54 7 [(0, .ref 5), (1, .int (nI o))] [.int r] w1 := by
    show ex_go X 54 0 [(0, .ref 5), (1, .int (nI o))] [] w = _
    simp (disch := first | assumption | decide) only [s54_0, s54_1, s54_4, mk_g K, List.getElem?_cons_zero, List.getElem?_cons_succ, Option.bind_some, Option.toList_some, Option.toList_none, List.cons_append, List.nil_append, not_true_eq_false, if_false, if_true, a1]
  rw [hd]
  unfold dstP
  rcases h1 with ⟨N, hr0, hN, hv⟩ | ⟨hr0, hN⟩
  · subst hr0
    subst hv
    rw [hN]
    by_cases cR : b + 2 ≤ 120
    · obtain ⟨w2, a2, K2⟩ := c_bringYes (X := X) (k := 2) (u := 0) K1 hM cR
      have a2 : ex_call X 50 [.ref 5, .long 0, .int 2] w1 = some (some (.int 1), w2) := a2
      rw [lowBy0] at K2
      have r102 := mk_r10 K2
      have r82 := mk_r8 K2
      have W2 := mk_W K2
      have sb : nI (M ++ [0, 0]).length - 2 = nI (st + y) := by
        rw [List.length_append, ← hy]
        exact pk_sub (a := M.length + 2) (b := 2) (by omega)
      obtain ⟨w3, a3, K3⟩ := c_addName (X := X) (N := N) (o := o) (q := st + y) K2 (by omega)
      have r83 := mk_r8 K3
      obtain ⟨w4, a4, K4⟩ := c_stepM (X := X) K3 E hp
      refine ⟨fun xs n z => ?_, fun z => ?_⟩
      · have z : (if b + 2 ≤ 120 then some ([0, 0], [(N, o, y)]) else none) = some (xs, n) := z
        rw [if_pos cR] at z
        cases z
        refine ⟨w4, _, ?_, K4, cR⟩
        simp (disch := first | assumption | decide) only [s54_7, s54_10, s54_11, s54_12, s54_13, s54_16, s54_19, s54_20, s54_23, s54_24, s54_27, s54_30, s54_31, s54_32, s54_35, s54_38, s54_39, s54_40, s54_43, s54_75, s54_76, s54_79, s54_82, s54_83, if_neg n1, if_pos n1, a2, List.getElem?_cons_zero, List.getElem?_cons_succ, Option.bind_some, Option.toList_some, Option.toList_none, List.cons_append, List.nil_append, not_true_eq_false, if_false, if_true, mk_g K2, w_value W2, mk_n K2, sb, a3, mk_g K3, a4]
      · have z : (if b + 2 ≤ 120 then some ([0, 0], [(N, o, y)]) else none) = none := z
        rw [if_pos cR] at z
        cases z
    · have bn : ex_call X 50 [.ref 5, .long 0, .int 2] w1 = some (some (.int 0), w1) := c_bringNo (X := X) (k := 2) (u := 0) K1 hb (by decide) cR
      refine ⟨fun xs n z => ?_, fun _ => ⟨w1, ?_, mf_of K1 hp⟩⟩
      · have z : (if b + 2 ≤ 120 then some ([0, 0], [(N, o, y)]) else none) = some (xs, n) := z
        rw [if_neg cR] at z
        cases z
      · simp (disch := first | assumption | decide) only [s54_7, s54_10, s54_11, s54_12, s54_13, s54_16, s54_46, s54_47, if_neg n1, bn, List.getElem?_cons_zero, List.getElem?_cons_succ, Option.bind_some, Option.toList_some, Option.toList_none, List.cons_append, List.nil_append, not_true_eq_false, if_false, if_true]
  · subst hr0
    rw [hN]
    obtain ⟨w2, v2, r2, a2, f2, W2, h2⟩ := w_isDistance (X := X) E.2.2 (mk_W K1) (mk_T K1 E)
    have K2 := mk_fr8 K1 f2 W2
    have r52 := mk_r5 K2
    have r82 := mk_r8 K2
    rcases h2 with ⟨hr2, hD⟩ | ⟨hr2, hD⟩
    · subst hr2
      rw [hD]
      by_cases cR : b + 2 ≤ 120
      · obtain ⟨w3, a3, K3⟩ := c_bringYes (X := X) (k := 2) (u := v2) K2 hM cR
        have a3 : ex_call X 50 [.ref 5, .long v2, .int 2] w2 = some (some (.int 1), w3) := a3
        have r83 := mk_r8 K3
        obtain ⟨w4, a4, K4⟩ := c_stepM (X := X) K3 E hp
        refine ⟨fun xs n z => ?_, fun z => ?_⟩
        · have z : (if b + 2 ≤ 120 then some (lowBy v2 2, ([] : NM)) else none) = some (xs, n) := z
          rw [if_pos cR] at z
          cases z
          refine ⟨w4, v2, ?_, by rw [List.map_nil, List.append_nil]; exact K4, cR⟩
          simp (disch := first | assumption | decide) only [s54_7, s54_48, s54_49, s54_52, s54_55, s54_58, s54_59, s54_60, s54_63, s54_66, s54_67, s54_70, s54_73, s54_74, s54_75, s54_76, s54_79, s54_82, s54_83, mk_g K1, List.getElem?_cons_zero, List.getElem?_cons_succ, Option.bind_some, Option.toList_some, Option.toList_none, List.cons_append, List.nil_append, not_true_eq_false, if_false, if_true, a2, if_neg n1, if_pos n1, mk_g K2, w_value W2, a3, mk_g K3, a4]
        · have z : (if b + 2 ≤ 120 then some (lowBy v2 2, ([] : NM)) else none) = none := z
          rw [if_pos cR] at z
          cases z
      · have bn : ex_call X 50 [.ref 5, .long v2, .int 2] w2 = some (some (.int 0), w2) := c_bringNo (X := X) (k := 2) (u := v2) K2 hb (by decide) cR
        refine ⟨fun xs n z => ?_, fun _ => ⟨w2, ?_, mf_of K2 hp⟩⟩
        · have z : (if b + 2 ≤ 120 then some (lowBy v2 2, ([] : NM)) else none) = some (xs, n) := z
          rw [if_neg cR] at z
          cases z
        · simp (disch := first | assumption | decide) only [s54_7, s54_48, s54_49, s54_52, s54_55, s54_58, s54_59, s54_60, s54_63, s54_66, s54_67, s54_70, s54_73, s54_74, mk_g K1, List.getElem?_cons_zero, List.getElem?_cons_succ, Option.bind_some, Option.toList_some, Option.toList_none, List.cons_append, List.nil_append, not_true_eq_false, if_false, if_true, a2, if_neg n1, mk_g K2, w_value W2, bn]
    · subst hr2
      rw [hD]
      refine ⟨fun xs n z => (by cases z), fun _ => ⟨w2, ?_, mf_of K2 hp⟩⟩
      simp (disch := first | assumption | decide) only [s54_7, s54_48, s54_49, s54_52, s54_55, s54_58, s54_59, s54_60, s54_63, s54_66, s54_67, s54_70, s54_73, s54_74, mk_g K1, List.getElem?_cons_zero, List.getElem?_cons_succ, Option.bind_some, Option.toList_some, Option.toList_none, List.cons_append, List.nil_append, not_true_eq_false, if_false, if_true, a2]
theorem dst_len {b o y : Nat} {xs : List Nat} {n : NM} (h : dstP S p b o y = some (xs, n)) : xs.length = 2 ∧ n.length ≤ 1 ∧ (∀ m, m ∈ n → m.2.2 = y) ∧ b + 2 ≤ 120 := by
  unfold dstP at h
  split at h
  next N e =>
    split at h
    next c =>
      cases h
      exact ⟨rfl, Nat.le_refl _, fun m hm => by rw [List.mem_singleton] at hm; rw [hm], c⟩
    next => cases h
  next e =>
    split at h
    next v e2 =>
      split at h
      next c =>
        cases h
        exact ⟨lowBy_len v 2, Nat.zero_le _, fun m hm => (by cases hm), c⟩
      next => cases h
    next => cases h
theorem dss_len {o : Nat} : ∀ (k p b y t : Nat) (xs : List Nat) (n : NM), p ≤ S.length → dssP S k p b o y = .inr (t, xs, n) → xs.length = 2 * k ∧ n.length ≤ k ∧ (∀ m, m ∈ n → m.2.2 + 1 < y + 2 * k) ∧ p ≤ t ∧ t ≤ S.length ∧ (b ≤ 120 → b + 2 * k ≤ 120) := by
  intro k
  induction k with
  | zero =>
    intro p b y t xs n hp h
    rw [dssP] at h
    cases h
    exact ⟨rfl, Nat.le_refl _, fun m hm => (by cases hm), Nat.le_refl _, hp, fun h => h⟩
  | succ k ih =>
    intro p b y t xs n hp h
    have wb := w_b hp
    rw [dssP] at h
    split at h
    next => cases h
    next xs1 n1 e =>
      have d := dst_len e
      split at h
      next => cases h
      next t2 ys n2 e2 =>
        cases h
        have i := ih _ _ _ _ _ _ wb.2.2.1 e2
        refine ⟨by rw [List.length_append]; omega, by rw [List.length_append]; omega, fun m hm => ?_, by omega, i.2.2.2.2.1, fun _ => ?_⟩
        · rcases List.mem_append.mp hm with q | q
          · have := d.2.2.1 m q
            omega
          · have := i.2.2.1 m q
            omega
        · have := i.2.2.2.2.2 d.2.2.2
          omega
theorem c_distsLoop {o st mn : Nat} (E : isEn w0 L S) : ∀ (k i p b y : Nat) (v : Int64) (M : List Nat) (ns : NM) (w : ex_W), i + k = mn → mn < 256 → isMk w0 w L S p v M pt cc (nI b) ic hl hr cs ls ns → p ≤ S.length → M.length ≤ b → b ≤ 120 → M.length = st + y → 2 * ns.length ≤ M.length → (∀ t xs n, dssP S k p b o y = .inr (t, xs, n) → ∃ w2 v2, ex_go X 52 100 [(0, .ref 5), (2, .int (nI o)), (4, .int 1), (5, .int (nI mn)), (6, .int (nI i))] [] w = some (some (.int 1), w2) ∧ isMk w0 w2 L S t v2 (M ++ xs) pt cc (nI (b + xs.length)) ic hl hr cs ls (ns ++ n.map (sh st))) ∧ (∀ f, dssP S k p b o y = .inl f → ∃ w2, ex_go X 52 100 [(0, .ref 5), (2, .int (nI o)), (4, .int 1), (5, .int (nI mn)), (6, .int (nI i))] [] w = some (some (.int 0), w2) ∧ isMf w0 w2 L S f) := by
  have n1 : ¬ (1 : Int32) = 0 := by decide
  intro k
  induction k with
  | zero =>
    intro i p b y v M ns w hi hmn K hp hM hb hy hns
    have e : nI mn ≤ nI i := nI_le (by omega) (by omega)
    rw [dssP]
    refine ⟨fun t xs n z => ?_, fun f z => (by cases z)⟩
    cases z
    refine ⟨w, v, ?_, by rw [List.map_nil, List.append_nil, List.append_nil]; exact K⟩
    simp (disch := first | assumption | decide) only [s52_100, s52_102, s52_104, s52_125, s52_127, if_pos e]
  | succ k ih =>
    intro i p b y v M ns w hi hmn K hp hM hb hy hns
    have e : ¬ nI mn ≤ nI i := nI_ge (by omega) (by omega)
    have r5 := mk_r5 K
    have rd := c_readDistance (X := X) (o := o) (y := y) (st := st) K E hp hM hb hy hns
    rw [dssP]
    cases hd : dstP S p b o y with
    | none =>
      obtain ⟨w2, a2, F2⟩ := rd.2 hd
      refine ⟨fun t xs n z => (by cases z), fun f z => ?_⟩
      cases z
      refine ⟨w2, ?_, F2⟩
      by_cases e2 : nI mn ≤ nI (i + 1)
      · rw [s52_100]
        simp (disch := first | assumption | decide) only [s52_102, s52_104, s52_107, s52_109, s52_112, s52_113, s52_114, s52_117, s52_119, s52_122, if_neg e, if_neg n1, a2, List.getElem?_cons_zero, List.getElem?_cons_succ, Option.bind_some, Option.toList_some, Option.toList_none, List.cons_append, List.nil_append, not_true_eq_false, if_false, if_true, nI_1]
        simp (disch := first | assumption | decide) only [s52_100, s52_102, s52_104, s52_125, s52_127, if_pos e2]
      · rw [s52_100]
        simp (disch := first | assumption | decide) only [s52_102, s52_104, s52_107, s52_109, s52_112, s52_113, s52_114, s52_117, s52_119, s52_122, if_neg e, if_neg n1, a2, List.getElem?_cons_zero, List.getElem?_cons_succ, Option.bind_some, Option.toList_some, Option.toList_none, List.cons_append, List.nil_append, not_true_eq_false, if_false, if_true, nI_1]
        simp (disch := first | assumption | decide) only [s52_100, s52_102, s52_104, s52_107, s52_109, s52_125, s52_127, if_neg e2, if_true]
    | some q =>
      obtain ⟨xs1, n2⟩ := q
      obtain ⟨w2, v2, a2, K2, cR⟩ := rd.1 xs1 n2 hd
      have d := dst_len hd
      have wb := w_b hp
      have ihh := ih (i + 1) (wT S p) (b + 2) (y + 2) v2 (M ++ xs1) (ns ++ n2.map (sh st)) w2 (by omega) hmn K2 wb.2.2.1 (by rw [List.length_append]; omega) cR (by rw [List.length_append]; omega) (by rw [List.length_append, List.length_append, List.length_map]; omega)
      have st0 : ex_go X 52 100 [(0, .ref 5), (2, .int (nI o)), (4, .int 1), (5, .int (nI mn)), (6, .int (nI i))] [] w = ex_go X 52 100 [(0, .ref 5), (2, .int (nI o)), (4, .int 1), (5, .int (nI mn)), (6, .int (nI (i + 1)))] [] w2 := by
        rw [s52_100]
        simp (disch := first | assumption | decide) only [s52_102, s52_104, s52_107, s52_109, s52_112, s52_113, s52_114, s52_117, s52_119, s52_122, if_neg e, if_neg n1, a2, List.getElem?_cons_zero, List.getElem?_cons_succ, Option.bind_some, Option.toList_some, Option.toList_none, List.cons_append, List.nil_append, not_true_eq_false, if_false, if_true, nI_1]
      rw [st0]
      show (∀ t xs n, (match dssP S k (wT S p) (b + 2) o (y + 2) with | .inl f => .inl f | .inr (t, ys, n3) => .inr (t, xs1 ++ ys, n2 ++ n3)) = Sum.inr (t, xs, n) → _) ∧ (∀ f, (match dssP S k (wT S p) (b + 2) o (y + 2) with | .inl f => .inl f | .inr (t, ys, n3) => .inr (t, xs1 ++ ys, n2 ++ n3)) = Sum.inl f → _)
      cases hk : dssP S k (wT S p) (b + 2) o (y + 2) with
      | inl f =>
        refine ⟨fun t xs n z => (by cases z), fun f z => ?_⟩
        cases z
        exact ihh.2 f hk
      | inr q =>
        obtain ⟨t, ys, n3⟩ := q
        refine ⟨fun t xs n z => ?_, fun f z => (by cases z)⟩
        cases z
        obtain ⟨w3, v3, a3, K3⟩ := ihh.1 t ys n3 hk
        refine ⟨w3, v3, a3, ?_⟩
        rw [List.length_append, show b + (xs1.length + ys.length) = b + 2 + ys.length by omega, List.map_append, ← List.append_assoc, ← List.append_assoc]
        exact K3
end CODE2
