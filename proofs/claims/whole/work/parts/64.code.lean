/-! a code's lines -/
section DISTS
variable {X : Option (List Int32)} {w : ex_W} {h a p : Nat} {xs : List Int32} {B : List Nat}
theorem n_distA (R : isRow w h a xs B.length) (H : holds xs B) (hp : p < 2 ^ 20) : (∃ x, ex_call X 103 [.ref h, .int (nI p)] w = some (some (.int x), w)) ∧ (B.getD p 0 < 256 → ex_call X 103 [.ref h, .int (nI p)] w = some (some (.int (nI (distN B p))), w)) := by
  have rc := ex_rc_o R.1 R.2.2.2.2.1 (by decide)
  have c0 := r_cellB (X := X) (i := p) R H (by omega)
  have c1 := r_cellB (X := X) (i := p + 1) R H (by omega)
  have e : ex_call X 103 [.ref h, .int (nI p)] w = if nI (B.getD p 0) = 6 then some (some (.int 1), w) else if nI (B.getD p 0) = 7 then some (some (.int 1), w) else if nI (B.getD p 0) = 8 then some (some (.int 0), w) else if nI (B.getD p 0) = 9 then some (some (.int 0), w) else if nI (B.getD p 0) = 10 then some (some (.int (nI (B.getD (p + 1) 0))), w) else some (some (.int 0), w) := by
    show ex_go X 103 0 [(0, .ref h), (1, .int (nI p))] [] w = _
    simp (disch := first | assumption | decide) only [s103_0, s103_1, s103_2, s103_5, s103_40, s103_41, s103_42, s103_43, s103_44, s103_45, s103_46, s103_49, s103_50, s103_51, c0, List.getElem?_cons_zero, List.getElem?_cons_succ, Option.bind_some, Option.toList_some, Option.toList_none, List.cons_append, List.nil_append, not_true_eq_false, if_false, if_true, nI_1, c1]
  rw [e]
  constructor
  · by_cases c6 : nI (B.getD p 0) = 6
    · exact ⟨1, if_pos c6⟩
    · rw [if_neg c6]
      by_cases c7 : nI (B.getD p 0) = 7
      · exact ⟨1, if_pos c7⟩
      · rw [if_neg c7]
        by_cases c8 : nI (B.getD p 0) = 8
        · exact ⟨0, if_pos c8⟩
        · rw [if_neg c8]
          by_cases c9 : nI (B.getD p 0) = 9
          · exact ⟨0, if_pos c9⟩
          · rw [if_neg c9]
            by_cases c10 : nI (B.getD p 0) = 10
            · exact ⟨_, if_pos c10⟩
            · exact ⟨0, if_neg c10⟩
  · intro hx
    have e6 : nI (B.getD p 0) = 6 ↔ B.getD p 0 = 6 := nI_eq (b := 6) (by omega) (by decide)
    have e7 : nI (B.getD p 0) = 7 ↔ B.getD p 0 = 7 := nI_eq (b := 7) (by omega) (by decide)
    have e8 : nI (B.getD p 0) = 8 ↔ B.getD p 0 = 8 := nI_eq (b := 8) (by omega) (by decide)
    have e9 : nI (B.getD p 0) = 9 ↔ B.getD p 0 = 9 := nI_eq (b := 9) (by omega) (by decide)
    have e10 : nI (B.getD p 0) = 10 ↔ B.getD p 0 = 10 := nI_eq (b := 10) (by omega) (by decide)
    simp only [e6, e7, e8, e9, e10]
    unfold distN
    by_cases c6 : B.getD p 0 = 6
    · rw [if_pos c6, if_pos c6]; rfl
    · rw [if_neg c6, if_neg c6]
      by_cases c7 : B.getD p 0 = 7
      · rw [if_pos c7, if_pos c7]; rfl
      · rw [if_neg c7, if_neg c7]
        by_cases c8 : B.getD p 0 = 8
        · rw [if_pos c8, if_neg (by omega)]; rfl
        · rw [if_neg c8]
          by_cases c9 : B.getD p 0 = 9
          · rw [if_pos c9, if_neg (by omega)]; rfl
          · rw [if_neg c9]
            by_cases c10 : B.getD p 0 = 10
            · rw [if_pos c10, if_pos c10]
            · rw [if_neg c10, if_neg c10]; rfl
end DISTS
theorem opL_le {S : List Nat} {p : Nat} : ∀ (k i : Nat), i + k ≤ 11 → opL S p k i ≤ 11 := by
  intro k
  induction k with
  | zero => intro i _; exact Nat.le_refl _
  | succ k ih =>
    intro i h
    rw [opL]
    split
    · omega
    · exact ih (i + 1) (by omega)
theorem getD_mid {M xs : List Nat} {c : Nat} : (M ++ c :: xs).getD M.length 0 = c ∧ (M ++ c :: xs).getD (M.length + 1) 0 = xs.getD 0 0 := by
  refine ⟨?_, ?_⟩
  · rw [List.getD_eq_getElem?_getD, List.getElem?_append_right (Nat.le_refl _), Nat.sub_self]
    rfl
  · rw [List.getD_eq_getElem?_getD, List.getElem?_append_right (by omega), show M.length + 1 - M.length = 1 by omega, List.getElem?_cons_succ, List.getD_eq_getElem?_getD]
theorem dist_dk {M xs : List Nat} {op : Nat} : distN (M ++ op :: xs) M.length = dkN op xs := by
  unfold distN dkN
  rw [getD_mid.1, getD_mid.2]
  by_cases c6 : op = 6
  · rw [if_pos c6, if_pos (Or.inl c6)]
  · rw [if_neg c6]
    by_cases c7 : op = 7
    · rw [if_pos c7, if_pos (Or.inr c7)]
    · have h : ¬ (op = 6 ∨ op = 7) := by omega
      rw [if_neg c7, if_neg h]
section CODE3
variable {X : Option (List Int32)} {w0 w : ex_W} {L : Nat} {S : List Nat} {p : Nat} {v : Int64} {M : List Nat} {pt cc br ic hl hr cs : Int32} {ls : List Nat} {ns : NM}
theorem arg_len {op b t : Nat} {xs : List Nat} (hp : p ≤ S.length) (h : argP S op p b = .inr (t, xs)) : xs.length ≤ 1 ∧ p ≤ t ∧ t ≤ S.length ∧ (b ≤ 120 → b + xs.length ≤ 120) ∧ ∀ j, xs.getD j 0 < 256 := by
  have wb := w_b hp
  unfold argP at h
  have o : ∀ m Mx, one S p (rNum S m Mx 1 p b) = .inr (t, xs) → xs.length ≤ 1 ∧ p ≤ t ∧ t ≤ S.length ∧ (b ≤ 120 → b + xs.length ≤ 120) ∧ ∀ j, xs.getD j 0 < 256 := by
    intro m Mx h
    unfold one at h
    split at h
    next ys e =>
      cases h
      have := rNum_len e
      exact ⟨by omega, by omega, by omega, fun _ => by omega, this.2.2⟩
    next => cases h
  split at h
  · exact o _ _ h
  · split at h
    · exact o _ _ h
    · cases h
      exact ⟨Nat.zero_le _, Nat.le_refl _, hp, fun h => h, fun j => by rw [getD_out (Nat.zero_le _)]; decide⟩
theorem ins_ok {b y t : Nat} {xs : List Nat} {n : NM} (hp : p ≤ S.length) (h : insP S p b y = .inr (t, xs, n)) : 1 + 2 * n.length ≤ xs.length ∧ (∀ m, m ∈ n → m.2.2 + 1 < y + xs.length) ∧ b + xs.length ≤ 120 ∧ wT S p ≤ t ∧ t ≤ S.length := by
  have wb := w_b hp
  unfold insP at h
  split at h
  next c =>
    split at h
    next => cases h
    next t1 xs1 e1 =>
      have a := arg_len wb.2.2.1 e1
      split at h
      next => cases h
      next t2 ys n2 e2 =>
        cases h
        have d := dss_len _ _ _ _ _ _ _ a.2.2.1 e2
        have dk := d.2.2.2.2.2 (by have := a.2.2.2.1; omega)
        simp only [List.cons_append, List.length_cons, List.length_append]
        refine ⟨by omega, fun m hm => ?_, by omega, by omega, d.2.2.2.2.1⟩
        have := d.2.2.1 m hm
        omega
  next => cases h
def outI (w0 : ex_W) (L : Nat) (S : List Nat) (o : ex_O) (r : Nat ⊕ (Nat × List Nat × NM)) (M : List Nat) (b st : Nat) (pt cc ic hl hr cs : Int32) (ls : List Nat) (ns : NM) : Prop := (∀ t xs n, r = .inr (t, xs, n) → ∃ w2 v2, o = some (some (.int 1), w2) ∧ isMk w0 w2 L S t v2 (M ++ xs) pt cc (nI (b + xs.length)) ic hl hr cs ls (ns ++ n.map (sh st))) ∧ (∀ f, r = .inl f → ∃ w2, o = some (some (.int 0), w2) ∧ isMf w0 w2 L S f)
theorem c_readInstruction {b c y : Nat} (K : isMk w0 w L S p v M pt cc (nI b) ic hl hr (nI c) ls ns) (E : isEn w0 L S) (hp : p ≤ S.length) (hM : M.length ≤ b) (hb : b ≤ 120) (hy : M.length = c + 1 + y) (hns : 2 * ns.length ≤ M.length) : outI w0 L S (ex_call X 52 [.ref 5] w) (insP S p b y) M b (c + 1) pt cc ic hl hr (nI c) ls ns := by
  have r5 := mk_r5 K
  have r8 := mk_r8 K
  have h120 := mk_120 K
  have n1 : ¬ (1 : Int32) = 0 := by decide
  have wb := w_b hp
  have pl := c_place (X := X) K hy
  have oo := c_opOf (X := X) K E hp
  have op11 : opN S p ≤ 11 := opL_le 11 0 (by omega)
  have hd : ex_call X 52 [.ref 5] w = ex_go X 52 21 [(0, .ref 5), (1, .int (nI M.length)), (2, .int (nI y)), (3, .int (if opN S p ≤ 10 then nI (opN S p) else -1))] [] w := by
    show ex_go X 52 0 [(0, .ref 5)] [] w = _
    simp (disch := first | assumption | decide) only [s52_0, s52_1, s52_4, s52_7, s52_8, s52_9, s52_12, s52_13, s52_14, s52_17, s52_20, mk_g K, List.getElem?_cons_zero, List.getElem?_cons_succ, Option.bind_some, Option.toList_some, Option.toList_none, List.cons_append, List.nil_append, not_true_eq_false, if_false, if_true, mk_n K, pl, oo]
  rw [hd]
  unfold insP
  by_cases cO : opN S p ≤ 10
  · rw [if_pos cO]
    have nm1 : ¬ nI (opN S p) = -1 := nI_n1 (by omega)
    by_cases cR : b + 1 ≤ 120
    · rw [if_pos ⟨cO, cR⟩]
      obtain ⟨w1, a1, K1⟩ := c_bring1 (X := X) (c := opN S p) (by omega) K hM cR
      have r81 := mk_r8 K1
      obtain ⟨w2, a2, K2⟩ := c_stepM (X := X) K1 E hp
      have r52 := mk_r5 K2
      have r62 := mk_r6 K2
      have hM2 : (M ++ [opN S p]).length ≤ b + 1 := by rw [List.length_append, List.length_singleton]; omega
      have hd2 : ex_go X 52 21 [(0, .ref 5), (1, .int (nI M.length)), (2, .int (nI y)), (3, .int (nI (opN S p)))] [] w = ex_go X 52 48 [(0, .ref 5), (1, .int (nI M.length)), (2, .int (nI y)), (3, .int (nI (opN S p))), (4, .int 1)] [] w2 := by
        simp (disch := first | assumption | decide) only [s52_21, s52_22, s52_23, s52_26, s52_27, s52_28, s52_29, s52_30, s52_33, s52_36, s52_37, s52_38, s52_39, s52_42, s52_45, s52_46, if_neg nm1, a1, List.getElem?_cons_zero, List.getElem?_cons_succ, Option.bind_some, Option.toList_some, Option.toList_none, List.cons_append, List.nil_append, not_true_eq_false, if_false, if_true, if_pos n1, mk_g K1, a2]
      rw [hd2]
      -- the number behind the word
      have arg : (∀ t xs, argP S (opN S p) (wT S p) (b + 1) = .inr (t, xs) → ∃ w3 v3, ex_go X 52 48 [(0, .ref 5), (1, .int (nI M.length)), (2, .int (nI y)), (3, .int (nI (opN S p))), (4, .int 1)] [] w2 = ex_go X 52 87 [(0, .ref 5), (1, .int (nI M.length)), (2, .int (nI y)), (4, .int 1)] [] w3 ∧ isMk w0 w3 L S t v3 (M ++ [opN S p] ++ xs) pt cc (nI (b + 1 + xs.length)) ic hl hr (nI c) ls ns) ∧ (∀ f, argP S (opN S p) (wT S p) (b + 1) = .inl f → ∃ w3, ex_go X 52 48 [(0, .ref 5), (1, .int (nI M.length)), (2, .int (nI y)), (3, .int (nI (opN S p))), (4, .int 1)] [] w2 = ex_go X 52 87 [(0, .ref 5), (1, .int (nI M.length)), (2, .int (nI y)), (4, .int 0)] [] w3 ∧ isMf w0 w3 L S f) := by
        unfold argP
        by_cases c1 : opN S p = 1
        · rw [if_pos c1]
          have e1 : ¬ ¬ nI (opN S p) = 1 := by rw [c1]; decide
          have on := o_num (X := X) (k := 1) (m := -128) (Mx := 127) K2 E wb.2.2.1 hM2 cR (by decide) (by decide) (by decide)
          refine ⟨fun t xs z => ?_, fun f z => ?_⟩
          · obtain ⟨w3, v3, b1, b2, b3, b4⟩ := on.1 t xs z
            have b1 : ex_call X 53 [.ref 5, .long (-128), .long 127, .int 1] w2 = some (some (.int 1), w3) := b1
            refine ⟨w3, v3, ?_, b2⟩
            simp (disch := first | assumption | decide) only [s52_48, s52_49, s52_50, s52_53, s52_54, s52_57, s52_60, s52_61, s52_64, s52_66, if_neg e1, b1, List.getElem?_cons_zero, List.getElem?_cons_succ, Option.bind_some, Option.toList_some, Option.toList_none, List.cons_append, List.nil_append, not_true_eq_false, if_false, if_true]
          · obtain ⟨w3, b1, b2⟩ := on.2 f z
            have b1 : ex_call X 53 [.ref 5, .long (-128), .long 127, .int 1] w2 = some (some (.int 0), w3) := b1
            refine ⟨w3, ?_, b2⟩
            simp (disch := first | assumption | decide) only [s52_48, s52_49, s52_50, s52_53, s52_54, s52_57, s52_60, s52_61, s52_64, s52_66, if_neg e1, b1, List.getElem?_cons_zero, List.getElem?_cons_succ, Option.bind_some, Option.toList_some, Option.toList_none, List.cons_append, List.nil_append, not_true_eq_false, if_false, if_true]
        · rw [if_neg c1]
          have e1 : ¬ nI (opN S p) = 1 := fun z => c1 ((nI_eq (b := 1) (by omega) (by decide)).mp z)
          by_cases c2 : opN S p = 2 ∨ opN S p = 8 ∨ opN S p = 10
          · rw [if_pos c2]
            have nh := (n_hasByte (X := X) (w := w2) (x := opN S p) (by omega)).1 (Or.inr c2)
            have on := o_num (X := X) (k := 1) (m := 0) (Mx := 255) K2 E wb.2.2.1 hM2 cR (by decide) (by decide) (by decide)
            refine ⟨fun t xs z => ?_, fun f z => ?_⟩
            · obtain ⟨w3, v3, b1, b2, b3, b4⟩ := on.1 t xs z
              have b1 : ex_call X 53 [.ref 5, .long 0, .long 255, .int 1] w2 = some (some (.int 1), w3) := b1
              refine ⟨w3, v3, ?_, b2⟩
              simp (disch := first | assumption | decide) only [s52_48, s52_49, s52_50, s52_69, s52_70, s52_73, s52_76, s52_77, s52_78, s52_81, s52_82, s52_85, if_pos e1, nh, if_neg n1, b1, List.getElem?_cons_zero, List.getElem?_cons_succ, Option.bind_some, Option.toList_some, Option.toList_none, List.cons_append, List.nil_append, not_true_eq_false, if_false, if_true]
            · obtain ⟨w3, b1, b2⟩ := on.2 f z
              have b1 : ex_call X 53 [.ref 5, .long 0, .long 255, .int 1] w2 = some (some (.int 0), w3) := b1
              refine ⟨w3, ?_, b2⟩
              simp (disch := first | assumption | decide) only [s52_48, s52_49, s52_50, s52_69, s52_70, s52_73, s52_76, s52_77, s52_78, s52_81, s52_82, s52_85, if_pos e1, nh, if_neg n1, b1, List.getElem?_cons_zero, List.getElem?_cons_succ, Option.bind_some, Option.toList_some, Option.toList_none, List.cons_append, List.nil_append, not_true_eq_false, if_false, if_true]
          · rw [if_neg c2]
            have nh := (n_hasByte (X := X) (w := w2) (x := opN S p) (by omega)).2 (fun z => by rcases z with z | z; exact c1 z; exact c2 z)
            refine ⟨fun t xs z => ?_, fun f z => (by cases z)⟩
            cases z
            refine ⟨w2, v, ?_, by rw [List.append_nil]; exact K2⟩
            simp (disch := first | assumption | decide) only [s52_48, s52_49, s52_50, s52_69, s52_70, s52_73, if_pos e1, nh, List.getElem?_cons_zero, List.getElem?_cons_succ, Option.bind_some, Option.toList_some, Option.toList_none, List.cons_append, List.nil_append, not_true_eq_false, if_false, if_true]
      show outI w0 L S _ (match argP S (opN S p) (wT S p) (b + 1) with | .inl f => .inl f | .inr (t, xs) => match dssP S (dkN (opN S p) xs) t (b + 1 + xs.length) y (y + 1 + xs.length) with | .inl f => .inl f | .inr (t2, ys, n) => .inr (t2, opN S p :: xs ++ ys, n)) M b (c + 1) pt cc ic hl hr (nI c) ls ns
      cases ha : argP S (opN S p) (wT S p) (b + 1) with
      | inl f =>
        obtain ⟨w3, a3, F3⟩ := arg.2 f ha
        refine ⟨fun t xs n z => (by cases z), fun g z => ?_⟩
        cases z
        refine ⟨w3, ?_, F3⟩
        obtain ⟨p3, v3, M3, q1, q2, q3, q4, q5, q6, q7, q8, q9, K3, _⟩ := F3
        have r63 := mk_r6 K3
        obtain ⟨zs, R3, H3, _⟩ := K3.2.2.2.1
        obtain ⟨x, dx⟩ := (n_distA (X := X) (p := M.length) R3 H3 (by omega)).1
        rw [a3]
        by_cases e : x ≤ 0
        · simp (disch := first | assumption | decide) only [s52_87, s52_88, s52_91, s52_92, s52_95, s52_97, s52_98, s52_100, s52_102, s52_104, s52_107, s52_109, s52_112, s52_113, s52_114, s52_117, s52_119, s52_122, s52_125, s52_127, mk_g K3, List.getElem?_cons_zero, List.getElem?_cons_succ, Option.bind_some, Option.toList_some, Option.toList_none, List.cons_append, List.nil_append, not_true_eq_false, if_false, if_true, dx, if_pos e]
        · simp (disch := first | assumption | decide) only [s52_87, s52_88, s52_91, s52_92, s52_95, s52_97, s52_98, s52_100, s52_102, s52_104, s52_107, s52_109, s52_112, s52_113, s52_114, s52_117, s52_119, s52_122, s52_125, s52_127, mk_g K3, List.getElem?_cons_zero, List.getElem?_cons_succ, Option.bind_some, Option.toList_some, Option.toList_none, List.cons_append, List.nil_append, not_true_eq_false, if_false, if_true, dx, if_neg e]
      | inr q =>
        obtain ⟨t, xs⟩ := q
        obtain ⟨w3, v3, a3, K3⟩ := arg.1 t xs ha
        have al := arg_len wb.2.2.1 ha
        have hb3 := al.2.2.2.1 cR
        have e3 : M ++ [opN S p] ++ xs = M ++ opN S p :: xs := by rw [List.append_assoc]; rfl
        rw [e3] at K3
        have r63 := mk_r6 K3
        have l3 : (M ++ opN S p :: xs).length = M.length + 1 + xs.length := by rw [List.length_append, List.length_cons]; omega
        have dx : ex_call X 103 [.ref 6, .int (nI M.length)] w3 = some (some (.int (nI (dkN (opN S p) xs))), w3) := by
          obtain ⟨zs, R3, H3, _⟩ := K3.2.2.2.1
          have := (n_distA (X := X) (p := M.length) R3 H3 (by omega)).2 (by rw [getD_mid.1]; omega)
          rw [dist_dk] at this
          exact this
        have hdk : dkN (opN S p) xs < 256 := by
          unfold dkN
          have := al.2.2.2.2 0
          split
          · decide
          · split
            · exact this
            · decide
        have lp := c_distsLoop (X := X) (o := y) (st := c + 1) (mn := dkN (opN S p) xs) E (dkN (opN S p) xs) 0 t (b + 1 + xs.length) (y + 1 + xs.length) v3 _ ns w3 (by omega) hdk K3 al.2.2.1 (by omega) hb3 (by omega) (by omega)
        have st : ex_go X 52 48 [(0, .ref 5), (1, .int (nI M.length)), (2, .int (nI y)), (3, .int (nI (opN S p))), (4, .int 1)] [] w2 = ex_go X 52 100 [(0, .ref 5), (2, .int (nI y)), (4, .int 1), (5, .int (nI (dkN (opN S p) xs))), (6, .int (nI 0))] [] w3 := by
          rw [a3]
          simp (disch := first | assumption | decide) only [s52_87, s52_88, s52_91, s52_92, s52_95, s52_97, s52_98, mk_g K3, List.getElem?_cons_zero, List.getElem?_cons_succ, Option.bind_some, Option.toList_some, Option.toList_none, List.cons_append, List.nil_append, not_true_eq_false, if_false, if_true, dx]
          rfl
        rw [st]
        show outI w0 L S _ (match dssP S (dkN (opN S p) xs) t (b + 1 + xs.length) y (y + 1 + xs.length) with | .inl f => .inl f | .inr (t2, ys, n) => .inr (t2, opN S p :: xs ++ ys, n)) M b (c + 1) pt cc ic hl hr (nI c) ls ns
        cases hk : dssP S (dkN (opN S p) xs) t (b + 1 + xs.length) y (y + 1 + xs.length) with
        | inl f =>
          refine ⟨fun t xs n z => (by cases z), fun g z => ?_⟩
          cases z
          exact lp.2 f hk
        | inr q =>
          obtain ⟨t2, ys, n⟩ := q
          refine ⟨fun t xs n z => ?_, fun g z => (by cases z)⟩
          cases z
          obtain ⟨w4, v4, a4, K4⟩ := lp.1 t2 ys n hk
          refine ⟨w4, v4, a4, ?_⟩
          have e5 : b + (opN S p :: xs ++ ys).length = b + 1 + xs.length + ys.length := by
            rw [List.cons_append, List.length_cons, List.length_append]
            omega
          rw [e5]
          simp only [List.append_assoc, List.cons_append] at K4 ⊢
          exact K4
    · rw [if_neg (fun z => cR z.2)]
      have bn : ex_call X 50 [.ref 5, .long (nI (opN S p)).toInt64, .int 1] w = some (some (.int 0), w) := c_bringNo (X := X) (k := 1) K hb (by decide) cR
      refine ⟨fun t xs n z => (by cases z), fun g z => ?_⟩
      cases z
      refine ⟨w, ?_, mf_of K hp⟩
      simp (disch := first | assumption | decide) only [s52_21, s52_22, s52_23, s52_26, s52_27, s52_28, s52_29, s52_30, s52_33, s52_36, s52_37, if_neg nm1, bn, List.getElem?_cons_zero, List.getElem?_cons_succ, Option.bind_some, Option.toList_some, Option.toList_none, List.cons_append, List.nil_append, not_true_eq_false, if_false, if_true]
  · rw [if_neg cO, if_neg (fun z => cO z.1)]
    refine ⟨fun t xs n z => (by cases z), fun g z => ?_⟩
    cases z
    refine ⟨w, ?_, mf_of K hp⟩
    simp (disch := first | assumption | decide) only [s52_21, s52_22, s52_23, s52_26, s52_27, s52_28, s52_29, s52_30, s52_33, s52_36, s52_37, List.getElem?_cons_zero, List.getElem?_cons_succ, Option.bind_some, Option.toList_some, Option.toList_none, List.cons_append, List.nil_append, not_true_eq_false, if_false, if_true]
theorem c_readLabelLine {c y N : Nat} (K : isMk w0 w L S p (lbV N) M pt cc br ic hl hr (nI c) ls ns) (E : isEn w0 L S) (hp : p ≤ S.length) (hy : M.length = c + 1 + y) (h64 : N = ls.length → ls.length < 64) : (N = ls.length → ∃ w2 v2, ex_call X 51 [.ref 5] w = some (some (.int 1), w2) ∧ isMk w0 w2 L S (wT S p) v2 M pt cc br ic hl hr (nI c) (ls ++ [y]) ns) ∧ (¬ N = ls.length → ex_call X 51 [.ref 5] w = some (some (.int 0), w)) := by
  have r5 := mk_r5 K
  have r10 := mk_r10 K
  have n1 : ¬ (1 : Int32) = 0 := by decide
  obtain ⟨l1, l2⟩ := lb_64 K
  have pl := c_place (X := X) K hy
  have ad := c_addLine (X := X) (q := y) (u := lbV N) K (fun z => h64 ((lbV_eq l1).mp z))
  constructor
  · intro e
    obtain ⟨w2, a2, K2⟩ := ad.1 ((lbV_eq l1).mpr e)
    have r82 := mk_r8 K2
    obtain ⟨w3, a3, K3⟩ := c_stepM (X := X) K2 E hp
    refine ⟨w3, _, ?_, K3⟩
    show ex_go X 51 0 [(0, .ref 5)] [] w = _
    simp (disch := first | assumption | decide) only [s51_0, s51_1, s51_4, s51_5, s51_8, s51_11, s51_12, s51_15, s51_18, s51_21, s51_22, s51_23, s51_24, s51_27, s51_30, s51_31, mk_g K, List.getElem?_cons_zero, List.getElem?_cons_succ, Option.bind_some, Option.toList_some, Option.toList_none, List.cons_append, List.nil_append, not_true_eq_false, if_false, if_true, w_value (mk_W K), pl, a2, if_pos n1, mk_g K2, a3]
  · intro e
    have a2 := ad.2 (fun z => e ((lbV_eq l1).mp z))
    show ex_go X 51 0 [(0, .ref 5)] [] w = _
    simp (disch := first | assumption | decide) only [s51_0, s51_1, s51_4, s51_5, s51_8, s51_11, s51_12, s51_15, s51_18, s51_21, s51_22, s51_23, s51_24, s51_27, s51_30, s51_31, mk_g K, List.getElem?_cons_zero, List.getElem?_cons_succ, Option.bind_some, Option.toList_some, Option.toList_none, List.cons_append, List.nil_append, not_true_eq_false, if_false, if_true, w_value (mk_W K), pl, a2]
theorem c_closeCode {c y : Nat} (K : isMk w0 w L S p v M pt cc br ic hl hr (nI c) ls ns) (E : isEn w0 L S) (hp : p ≤ S.length) (hy : M.length = c + 1 + y) (hc : ∀ n, n ∈ ns → n.2.2 + 1 < M.length) : (∀ M2, stl ls ns M = some M2 → ∃ w2, ex_call X 45 [.ref 5] w = some (some (.int 1), w2) ∧ isMk w0 w2 L S (wT S p) v (M2.set c y) pt cc br 0 hl hr (nI c) ls ns) ∧ (stl ls ns M = none → ∃ w2, ex_call X 45 [.ref 5] w = some (some (.int 0), w2) ∧ isMf w0 w2 L S (wF S p)) := by
  have r10 := mk_r10 K
  have n1 : ¬ (1 : Int32) = 0 := by decide
  have se := c_settle (X := X) K hc
  constructor
  · intro M2 h
    obtain ⟨w2, a2, K2⟩ := se.1 M2 h
    have l2 := stl_len ns M M2 h
    have r82 := mk_r8 K2
    obtain ⟨w3, a3, K3⟩ := c_stepM (X := X) K2 E hp
    have r53 := mk_r5 K3
    have r63 := mk_r6 K3
    have pl := c_place (X := X) (y := y) K3 (by omega)
    obtain ⟨w4, a4, K4⟩ := mk_change (X := X) (i := c) (c := y) K3 (by omega)
    have K5 := mk_set (pt2 := pt) (cc2 := cc) (br2 := br) (ic2 := 0) (hl2 := hl) (hr2 := hr) (cs2 := nI c) K4
    refine ⟨_, ?_, K5⟩
    show ex_go X 45 0 [(0, .ref 5)] [] w = _
    simp (disch := first | assumption | decide) only [s45_0, s45_1, s45_4, s45_5, s45_8, s45_11, s45_14, s45_15, s45_16, s45_17, s45_20, s45_23, s45_24, s45_27, s45_28, s45_31, s45_32, s45_35, s45_38, s45_39, s45_40, s45_43, s45_44, mk_g K, List.getElem?_cons_zero, List.getElem?_cons_succ, Option.bind_some, Option.toList_some, Option.toList_none, List.cons_append, List.nil_append, not_true_eq_false, if_false, if_true, a2, if_pos n1, mk_g K2, a3, mk_g K3, pl, a4, mk_p6 K4]
  · intro h
    obtain ⟨w2, M3, a2, K2⟩ := se.2 h
    refine ⟨w2, ?_, mf_of K2 hp⟩
    show ex_go X 45 0 [(0, .ref 5)] [] w = _
    simp (disch := first | assumption | decide) only [s45_0, s45_1, s45_4, s45_5, s45_8, s45_11, s45_14, s45_15, s45_16, s45_17, s45_20, s45_23, s45_24, s45_27, s45_28, s45_31, s45_32, s45_35, s45_38, s45_39, s45_40, s45_43, s45_44, mk_g K, List.getElem?_cons_zero, List.getElem?_cons_succ, Option.bind_some, Option.toList_some, Option.toList_none, List.cons_append, List.nil_append, not_true_eq_false, if_false, if_true, a2]
end CODE3
