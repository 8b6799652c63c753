/-! the other object's instructions, lines, ends -/
section REF8
variable {X : Option (List Int32)} {w0 w : ex_W} {A : Nat → Int32} {S : List Nat} {p : Nat} {fr to : Int32} {v : Int64} {M : List Nat} {b q ca : Nat} {ls : List Nat} {ns : NM}
def outRI (w0 : ex_W) (A : Nat → Int32) (S : List Nat) (o : ex_O) (r : Nat ⊕ (Nat × List Nat × NM)) (M : List Nat) (b st q ca : Nat) (ls : List Nat) (ns : NM) : Prop := (∀ t xs n, r = .inr (t, xs, n) → ∃ w2 fr2 to2 v2, o = some (some (.int 1), w2) ∧ RS w0 A w2 S t fr2 to2 v2 (M ++ xs) (b + xs.length) q ca ls (ns ++ n.map (sh st))) ∧ (∀ f, r = .inl f → ∃ w2, o = some (some (.int 0), w2) ∧ RF w0 A w2 f)
theorem y_distsLoop {o st mn : Nat} (E : isSr w0 S) : ∀ (k i p b y : Nat) (fr to : Int32) (v : Int64) (M : List Nat) (ns : NM) (w : ex_W), i + k = mn → mn < 256 → RS w0 A w S p fr to v M b q ca ls ns → p ≤ S.length → M.length ≤ b → b ≤ 120 → M.length = st + y → 2 * ns.length ≤ M.length → outRI w0 A S (ex_go X 157 119 [(0, .ref 32), (3, .int (nI o)), (4, .int (nI mn)), (5, .int (nI i))] [] w) (dssP S k p b o y) M b st q ca ls ns := by
  have n1 : ¬ (1 : Int32) = 0 := by decide
  intro k
  induction k with
  | zero =>
    intro i p b y fr to v M ns w hi hmn K hp hM hb hy hns
    have e : nI mn ≤ nI i := nI_le (by omega) (by omega)
    rw [dssP]
    refine ⟨fun t xs n z => ?_, fun f z => (by cases z)⟩
    cases z
    refine ⟨w, fr, to, v, ?_, by rw [List.map_nil, List.append_nil, List.append_nil]; exact K⟩
    simp (disch := first | assumption | decide) only [s157_119, s157_121, s157_123, s157_142, s157_143, if_pos e]
  | succ k ih =>
    intro i p b y fr to v M ns w hi hmn K hp hM hb hy hns
    have e : ¬ nI mn ≤ nI i := nI_ge (by omega) (by omega)
    have rc := rs_rc K
    have rd := y_readDistance (X := X) (o := o) (y := y) (st := st) K E hp hM hb hy hns
    rw [dssP]
    cases hd : dstP S p b o y with
    | none =>
      obtain ⟨w2, a2, F2⟩ := rd.2 hd
      refine ⟨fun t xs n z => (by cases z), fun f z => ?_⟩
      cases z
      refine ⟨w2, ?_, F2⟩
      rw [s157_119]
      simp (disch := first | assumption | decide) only [s157_121, s157_123, s157_126, s157_127, s157_128, s157_131, s157_134, s157_135, if_neg e, a2, List.getElem?_cons_zero, List.getElem?_cons_succ, Option.bind_some, Option.toList_some, Option.toList_none, List.cons_append, List.nil_append, not_true_eq_false, if_false, if_true]
    | some u =>
      obtain ⟨xs1, n2⟩ := u
      obtain ⟨w2, fr2, to2, v2, a2, K2, cR⟩ := rd.1 xs1 n2 hd
      have d := dst_len hd
      have wb := w_b hp
      have ihh := ih (i + 1) (wT S p) (b + 2) (y + 2) fr2 to2 v2 (M ++ xs1) (ns ++ n2.map (sh st)) w2 (by omega) hmn K2 wb.2.2.1 (by rw [List.length_append]; omega) cR (by rw [List.length_append]; omega) (by rw [List.length_append, List.length_append, List.length_map]; omega)
      have st0 : ex_go X 157 119 [(0, .ref 32), (3, .int (nI o)), (4, .int (nI mn)), (5, .int (nI i))] [] w = ex_go X 157 119 [(0, .ref 32), (3, .int (nI o)), (4, .int (nI mn)), (5, .int (nI (i + 1)))] [] w2 := by
        rw [s157_119]
        simp (disch := first | assumption | decide) only [s157_121, s157_123, s157_126, s157_127, s157_128, s157_131, s157_134, s157_135, s157_136, s157_139, if_neg e, a2, List.getElem?_cons_zero, List.getElem?_cons_succ, Option.bind_some, Option.toList_some, Option.toList_none, List.cons_append, List.nil_append, not_true_eq_false, if_false, if_true, if_pos n1, nI_1]
      rw [st0]
      show outRI w0 A S _ (match dssP S k (wT S p) (b + 2) o (y + 2) with | .inl f => .inl f | .inr (t, ys, n3) => .inr (t, xs1 ++ ys, n2 ++ n3)) M b st q ca ls ns
      cases hk : dssP S k (wT S p) (b + 2) o (y + 2) with
      | inl f =>
        refine ⟨fun t xs n z => (by cases z), fun f z => ?_⟩
        cases z
        exact ihh.2 f hk
      | inr u =>
        obtain ⟨t, ys, n3⟩ := u
        refine ⟨fun t xs n z => ?_, fun f z => (by cases z)⟩
        cases z
        obtain ⟨w3, fr3, to3, v3, a3, K3⟩ := ihh.1 t ys n3 hk
        refine ⟨w3, fr3, to3, v3, a3, ?_⟩
        rw [List.length_append, show b + (xs1.length + ys.length) = b + 2 + ys.length by omega, List.map_append, ← List.append_assoc, ← List.append_assoc]
        exact K3
/-- word p in hand is an instruction's -/
theorem y_readInstruction {st y : Nat} (K : RS w0 A w S (wT S p) (nI (wF S p)) (nI (wT S p)) v M b q ca ls ns) (E : isSr w0 S) (hp : p ≤ S.length) (hM : M.length ≤ b) (hb : b ≤ 120) (hy : M.length = st + y) (hns : 2 * ns.length ≤ M.length) : outRI w0 A S (ex_call X 157 [.ref 32, .int (if opN S p ≤ 10 then nI (opN S p) else -1), .int (nI st)] w) (insP S p b y) M b st q ca ls ns := by
  have rc := rs_rc K
  have n1 : ¬ (1 : Int32) = 0 := by decide
  have wb := w_b hp
  have op11 : opN S p ≤ 11 := opL_le 11 0 (by omega)
  have sb : nI M.length - nI st = nI y := by rw [pk_sub (by omega), show M.length - st = y by omega]
  unfold insP
  by_cases cO : opN S p ≤ 10
  · rw [if_pos cO]
    have g0 : 0 ≤ nI (opN S p) := nI_le (a := 0) (Nat.zero_le _) (by omega)
    have rm := y_room (X := X) (n := 1) K hb (by decide)
    by_cases cR : b + 1 ≤ 120
    · rw [if_pos ⟨cO, cR⟩]
      obtain ⟨w1, a1, K1⟩ := rm.1 cR
      have a1 : ex_call X 146 [.ref 32, .int 1] w = some (some (.int 1), w1) := a1
      have rc1 := rs_rc K1
      obtain ⟨w2, a2, K2⟩ := y_add (X := X) (c := opN S p) K1 (by omega) (nI_255 (by omega))
      have rc2 := rs_rc K2
      have hM2 : (M ++ [opN S p]).length ≤ b + 1 := by rw [List.length_append, List.length_singleton]; omega
      have hd2 : ex_call X 157 [.ref 32, .int (nI (opN S p)), .int (nI st)] w = ex_go X 157 31 [(0, .ref 32), (1, .int (nI (opN S p))), (3, .int (nI y))] [] w2 := by
        show ex_go X 157 0 [(0, .ref 32), (1, .int (nI (opN S p))), (2, .int (nI st))] [] w = _
        simp (disch := first | assumption | decide) only [s157_0, s157_1, s157_4, s157_5, s157_6, s157_7, s157_8, s157_11, s157_12, s157_15, s157_16, s157_17, s157_18, s157_21, s157_24, s157_25, s157_26, s157_27, s157_28, rs_g K, List.getElem?_cons_zero, List.getElem?_cons_succ, Option.bind_some, Option.toList_some, Option.toList_none, List.cons_append, List.nil_append, not_true_eq_false, if_false, if_true, sb, if_pos g0, a1, if_pos n1, a2]
      rw [hd2]
      have e2 : opN S p = 2 → nI (opN S p) = 2 := fun z => by rw [z]; rfl
      have ne : ∀ c, c < 100 → ¬ opN S p = c → ¬ nI (opN S p) = nI c := fun c h1 h2 y => h2 ((nI_eq (by omega) (by omega)).mp y)
      -- the number behind the word
      have arg : (∀ t xs, argP S (opN S p) (wT S p) (b + 1) = .inr (t, xs) → ∃ w3 fr3 to3 v3, ex_go X 157 31 [(0, .ref 32), (1, .int (nI (opN S p))), (3, .int (nI y))] [] w2 = ex_go X 157 77 [(0, .ref 32), (1, .int (nI (opN S p))), (3, .int (nI y))] [] w3 ∧ RS w0 A w3 S t fr3 to3 v3 (M ++ [opN S p] ++ xs) (b + 1 + xs.length) q ca ls ns) ∧ (∀ f, argP S (opN S p) (wT S p) (b + 1) = .inl f → ∃ w3, ex_go X 157 31 [(0, .ref 32), (1, .int (nI (opN S p))), (3, .int (nI y))] [] w2 = some (some (.int 0), w3) ∧ RF w0 A w3 f) := by
        unfold argP
        by_cases c1 : opN S p = 1
        · rw [if_pos c1]
          have f1 : ¬ ¬ nI (opN S p) = 1 := by rw [c1]; decide
          have f2 : ¬ nI (opN S p) = 2 := by rw [c1]; decide
          have f8 : ¬ nI (opN S p) = 8 := by rw [c1]; decide
          have f10 : ¬ nI (opN S p) = 10 := by rw [c1]; decide
          have on := y_readByte (X := X) (lo := -128) (hi := 127) K2 E wb.2.2.1 hM2 cR
          refine ⟨fun t xs z => ?_, fun f z => ?_⟩
          · obtain ⟨w3, fr3, to3, v3, b1, b2, b3, b4⟩ := on.1 t xs z
            refine ⟨w3, fr3, to3, v3, ?_, b2⟩
            simp (disch := first | assumption | decide) only [s157_31, s157_32, s157_33, s157_36, s157_37, s157_39, s157_41, s157_44, s157_47, s157_48, s157_49, s157_52, s157_53, s157_55, s157_58, s157_59, s157_61, s157_64, s157_65, s157_66, s157_69, s157_72, if_neg f1, b1, List.getElem?_cons_zero, List.getElem?_cons_succ, Option.bind_some, Option.toList_some, Option.toList_none, List.cons_append, List.nil_append, not_true_eq_false, if_false, if_true, if_neg n1, if_neg f2, if_neg f8, if_pos f10]
          · obtain ⟨w3, b1, b2⟩ := on.2 f z
            refine ⟨w3, ?_, b2⟩
            simp (disch := first | assumption | decide) only [s157_31, s157_32, s157_33, s157_36, s157_37, s157_39, s157_41, s157_44, s157_75, s157_76, if_neg f1, b1, List.getElem?_cons_zero, List.getElem?_cons_succ, Option.bind_some, Option.toList_some, Option.toList_none, List.cons_append, List.nil_append, not_true_eq_false, if_false, if_true]
        · rw [if_neg c1]
          have f1 : ¬ nI (opN S p) = 1 := ne 1 (by decide) c1
          by_cases c2 : opN S p = 2 ∨ opN S p = 8 ∨ opN S p = 10
          · rw [if_pos c2]
            have on := y_readByte (X := X) (lo := 0) (hi := 255) K2 E wb.2.2.1 hM2 cR
            have to64 : ex_go X 157 31 [(0, .ref 32), (1, .int (nI (opN S p))), (3, .int (nI y))] [] w2 = ex_go X 157 64 [(0, .ref 32), (1, .int (nI (opN S p))), (3, .int (nI y))] [] w2 := by
              rcases c2 with c | c | c
              · have f2 : nI (opN S p) = 2 := by rw [c]; rfl
                simp (disch := first | assumption | decide) only [s157_31, s157_32, s157_33, s157_36, s157_37, s157_39, s157_41, s157_44, s157_47, s157_48, s157_49, s157_52, s157_53, s157_55, s157_58, s157_59, s157_61, if_pos f1, if_pos f2]
              · have f2 : ¬ nI (opN S p) = 2 := by rw [c]; decide
                have f8 : nI (opN S p) = 8 := by rw [c]; rfl
                simp (disch := first | assumption | decide) only [s157_31, s157_32, s157_33, s157_36, s157_37, s157_39, s157_41, s157_44, s157_47, s157_48, s157_49, s157_52, s157_53, s157_55, s157_58, s157_59, s157_61, if_pos f1, if_neg f2, if_pos f8]
              · have f2 : ¬ nI (opN S p) = 2 := by rw [c]; decide
                have f8 : ¬ nI (opN S p) = 8 := by rw [c]; decide
                have f10 : ¬ ¬ nI (opN S p) = 10 := by rw [c]; decide
                simp (disch := first | assumption | decide) only [s157_31, s157_32, s157_33, s157_36, s157_37, s157_39, s157_41, s157_44, s157_47, s157_48, s157_49, s157_52, s157_53, s157_55, s157_58, s157_59, s157_61, if_pos f1, if_neg f2, if_neg f8, if_neg f10]
            rw [to64]
            refine ⟨fun t xs z => ?_, fun f z => ?_⟩
            · obtain ⟨w3, fr3, to3, v3, b1, b2, b3, b4⟩ := on.1 t xs z
              refine ⟨w3, fr3, to3, v3, ?_, b2⟩
              simp (disch := first | assumption | decide) only [s157_64, s157_65, s157_66, s157_69, s157_72, b1, List.getElem?_cons_zero, List.getElem?_cons_succ, Option.bind_some, Option.toList_some, Option.toList_none, List.cons_append, List.nil_append, not_true_eq_false, if_false, if_true, if_pos n1]
            · obtain ⟨w3, b1, b2⟩ := on.2 f z
              refine ⟨w3, ?_, b2⟩
              simp (disch := first | assumption | decide) only [s157_64, s157_65, s157_66, s157_69, s157_72, s157_75, s157_76, b1, List.getElem?_cons_zero, List.getElem?_cons_succ, Option.bind_some, Option.toList_some, Option.toList_none, List.cons_append, List.nil_append, not_true_eq_false, if_false, if_true]
          · rw [if_neg c2]
            have f2 : ¬ nI (opN S p) = 2 := ne 2 (by decide) (fun z => c2 (Or.inl z))
            have f8 : ¬ nI (opN S p) = 8 := ne 8 (by decide) (fun z => c2 (Or.inr (Or.inl z)))
            have f10 : ¬ nI (opN S p) = 10 := ne 10 (by decide) (fun z => c2 (Or.inr (Or.inr z)))
            refine ⟨fun t xs z => ?_, fun f z => (by cases z)⟩
            cases z
            refine ⟨w2, _, _, _, ?_, by rw [List.append_nil]; exact K2⟩
            simp (disch := first | assumption | decide) only [s157_31, s157_32, s157_33, s157_36, s157_37, s157_39, s157_41, s157_44, s157_47, s157_48, s157_49, s157_52, s157_53, s157_55, s157_58, s157_59, s157_61, if_pos f1, if_neg f2, if_neg f8, if_pos f10]
      show outRI w0 A S _ (match argP S (opN S p) (wT S p) (b + 1) with | .inl f => .inl f | .inr (t, xs) => match dssP S (dkN (opN S p) xs) t (b + 1 + xs.length) y (y + 1 + xs.length) with | .inl f => .inl f | .inr (t2, ys, n) => .inr (t2, opN S p :: xs ++ ys, n)) M b st q ca ls ns
      cases ha : argP S (opN S p) (wT S p) (b + 1) with
      | inl f =>
        obtain ⟨w3, a3, F3⟩ := arg.2 f ha
        refine ⟨fun t xs n z => (by cases z), fun g z => ?_⟩
        cases z
        exact ⟨w3, a3, F3⟩
      | inr u =>
        obtain ⟨t, xs⟩ := u
        obtain ⟨w3, fr3, to3, v3, a3, K3⟩ := arg.1 t xs ha
        have al := arg_len wb.2.2.1 ha
        have hb3 := al.2.2.2.1 cR
        have e3 : M ++ [opN S p] ++ xs = M ++ opN S p :: xs := by rw [List.append_assoc]; rfl
        rw [e3] at K3
        have l3 : (M ++ opN S p :: xs).length = M.length + 1 + xs.length := by rw [List.length_append, List.length_cons]; omega
        have hdk : dkN (opN S p) xs < 256 := by
          unfold dkN
          have := al.2.2.2.2 0
          split
          · decide
          · split
            · exact this
            · decide
        have lp := y_distsLoop (X := X) (o := y) (st := st) (mn := dkN (opN S p) xs) E (dkN (opN S p) xs) 0 t (b + 1 + xs.length) (y + 1 + xs.length) fr3 to3 v3 _ ns w3 (by omega) hdk K3 al.2.2.1 (by omega) hb3 (by omega) (by omega)
        have dx : ex_go X 157 77 [(0, .ref 32), (1, .int (nI (opN S p))), (3, .int (nI y))] [] w3 = ex_go X 157 119 [(0, .ref 32), (3, .int (nI y)), (4, .int (nI (dkN (opN S p) xs))), (5, .int (nI 0))] [] w3 := by
          unfold dkN
          by_cases c10 : opN S p = 10
          · have f10 : ¬ ¬ nI (opN S p) = 10 := by rw [c10]; decide
            have xl : xs.length = 1 := by
              unfold argP at ha
              rw [if_neg (by omega), if_pos (Or.inr (Or.inr c10))] at ha
              unfold one at ha
              split at ha
              next zs e =>
                cases ha
                exact (rNum_len e).1
              next => cases ha
            have ml := rs_ml (i := M.length + 1) K3 (by omega)
            rw [getD_mid.2] at ml
            have sb1 : nI (M ++ opN S p :: xs).length - 1 = nI (M.length + 1) := by
              rw [l3, xl]
              exact nI_pred _
            rw [if_neg (by omega), if_pos c10]
            simp (disch := first | assumption | decide) only [s157_77, s157_78, s157_80, s157_83, s157_84, s157_87, s157_88, s157_91, s157_92, s157_93, s157_94, s157_97, s157_98, s157_100, s157_103, s157_104, s157_106, s157_109, s157_110, s157_113, s157_114, s157_116, s157_117, if_neg f10, rs_g K3, List.getElem?_cons_zero, List.getElem?_cons_succ, Option.bind_some, Option.toList_some, Option.toList_none, List.cons_append, List.nil_append, not_true_eq_false, if_false, if_true, sb1, ml]
            rfl
          · have f10 : ¬ nI (opN S p) = 10 := ne 10 (by decide) c10
            by_cases c6 : opN S p = 6
            · have f6 : nI (opN S p) = 6 := by rw [c6]; rfl
              rw [if_pos (Or.inl c6)]
              simp (disch := first | assumption | decide) only [s157_77, s157_78, s157_80, s157_83, s157_84, s157_87, s157_88, s157_91, s157_92, s157_93, s157_94, s157_97, s157_98, s157_100, s157_103, s157_104, s157_106, s157_109, s157_110, s157_113, s157_114, s157_116, s157_117, if_pos f10, if_pos f6]
              rfl
            · have f6 : ¬ nI (opN S p) = 6 := ne 6 (by decide) c6
              by_cases c7 : opN S p = 7
              · have f7 : ¬ ¬ nI (opN S p) = 7 := by rw [c7]; decide
                rw [if_pos (Or.inr c7)]
                simp (disch := first | assumption | decide) only [s157_77, s157_78, s157_80, s157_83, s157_84, s157_87, s157_88, s157_91, s157_92, s157_93, s157_94, s157_97, s157_98, s157_100, s157_103, s157_104, s157_106, s157_109, s157_110, s157_113, s157_114, s157_116, s157_117, if_pos f10, if_neg f6, if_neg f7]
                rfl
              · have f7 : ¬ nI (opN S p) = 7 := ne 7 (by decide) c7
                rw [if_neg (by omega), if_neg c10]
                simp (disch := first | assumption | decide) only [s157_77, s157_78, s157_80, s157_83, s157_84, s157_87, s157_88, s157_91, s157_92, s157_93, s157_94, s157_97, s157_98, s157_100, s157_103, s157_104, s157_106, s157_109, s157_110, s157_113, s157_114, s157_116, s157_117, if_pos f10, if_neg f6, if_pos f7]
                rfl
        rw [a3, dx]
        show outRI w0 A S _ (match dssP S (dkN (opN S p) xs) t (b + 1 + xs.length) y (y + 1 + xs.length) with | .inl f => .inl f | .inr (t2, ys, n) => .inr (t2, opN S p :: xs ++ ys, n)) M b st q ca ls ns
        cases hk : dssP S (dkN (opN S p) xs) t (b + 1 + xs.length) y (y + 1 + xs.length) with
        | inl f =>
          refine ⟨fun t xs n z => (by cases z), fun g z => ?_⟩
          cases z
          exact lp.2 f hk
        | inr u =>
          obtain ⟨t2, ys, n⟩ := u
          refine ⟨fun t xs n z => ?_, fun g z => (by cases z)⟩
          cases z
          obtain ⟨w4, fr4, to4, v4, a4, K4⟩ := lp.1 t2 ys n hk
          refine ⟨w4, fr4, to4, v4, a4, ?_⟩
          have e5 : b + (opN S p :: xs ++ ys).length = b + 1 + xs.length + ys.length := by
            rw [List.cons_append, List.length_cons, List.length_append]
            omega
          rw [e5]
          simp only [List.append_assoc, List.cons_append] at K4 ⊢
          exact K4
    · rw [if_neg (fun z => cR z.2)]
      obtain ⟨w1, a1, F1⟩ := rm.2 cR
      have a1 : ex_call X 146 [.ref 32, .int 1] w = some (some (.int 0), w1) := a1
      refine ⟨fun t xs n z => (by cases z), fun g z => ?_⟩
      cases z
      refine ⟨w1, ?_, F1⟩
      show ex_go X 157 0 [(0, .ref 32), (1, .int (nI (opN S p))), (2, .int (nI st))] [] w = _
      simp (disch := first | assumption | decide) only [s157_0, s157_1, s157_4, s157_5, s157_6, s157_7, s157_8, s157_11, s157_12, s157_15, s157_16, s157_17, s157_18, s157_21, s157_24, s157_25, rs_g K, List.getElem?_cons_zero, List.getElem?_cons_succ, Option.bind_some, Option.toList_some, Option.toList_none, List.cons_append, List.nil_append, not_true_eq_false, if_false, if_true, sb, if_pos g0, a1]
  · rw [if_neg cO, if_neg (fun z => cO z.1)]
    have g0 : ¬ 0 ≤ (-1 : Int32) := by decide
    obtain ⟨w1, a1, F1⟩ := y_wrong (X := X) K
    refine ⟨fun t xs n z => (by cases z), fun g z => ?_⟩
    cases z
    refine ⟨w1, ?_, F1⟩
    show ex_go X 157 0 [(0, .ref 32), (1, .int (-1)), (2, .int (nI st))] [] w = _
    simp (disch := first | assumption | decide) only [s157_0, s157_1, s157_4, s157_5, s157_6, s157_7, s157_8, s157_11, s157_12, s157_15, rs_g K, List.getElem?_cons_zero, List.getElem?_cons_succ, Option.bind_some, Option.toList_some, Option.toList_none, List.cons_append, List.nil_append, not_true_eq_false, if_false, if_true, sb, if_neg g0, a1]
theorem y_readLine {st y : Nat} (K : RS w0 A w S (wT S p) (nI (wF S p)) (nI (wT S p)) v M b q ca ls ns) (E : isSr w0 S) (hp : p ≤ S.length) (hy : M.length = st + y) (h120 : M.length ≤ 120) (h64 : numW S (wF S p + 1) (wT S p) = some ls.length → ls.length < 64) : (numW S (wF S p + 1) (wT S p) = some ls.length → ∃ w2 v2, ex_call X 155 [.ref 32, .int (nI st)] w = some (some (.int 1), w2) ∧ RS w0 A w2 S (wT S p) (nI (wF S p)) (nI (wT S p)) v2 M b q ca (ls ++ [y]) ns) ∧ (¬ numW S (wF S p + 1) (wT S p) = some ls.length → ∃ w2, ex_call X 155 [.ref 32, .int (nI st)] w = some (some (.int 0), w2) ∧ RF w0 A w2 (wF S p)) := by
  have hl := lt_len E
  have rc := rs_rc K
  have n1 : ¬ (1 : Int32) = 0 := by decide
  have wb := w_b hp
  obtain ⟨l100, l60⟩ := rl_60 K
  have dg := y_digits (X := X) (a := wF S p + 1) (t := wT S p) K E wb.2.2.1 (by omega)
  have sb : nI M.length - nI st = nI y := by rw [pk_sub (by omega), show M.length - st = y by omega]
  have tl : ((-(nI ls.length)).toInt64).toInt = -(ls.length : Int) := by
    rw [Int32.toInt_toInt64, Int32.toInt_neg, nI_toInt (by omega), Int.bmod_eq_of_le (by omega) (by omega)]
  constructor
  · intro hN
    have hlt := h64 hN
    obtain ⟨w1, a1, K1⟩ := dg.1 ls.length hN (by omega)
    have g0 : lg_cmp (ng ls.length) (-(nI ls.length)).toInt64 = 0 := (lg_cmp_eq _ _).mpr (by
      rw [← Int64.toInt_inj, tl, ng_toInt (by omega)])
    obtain ⟨⟨k1, k2⟩, k3, ⟨ms, m1, m2, m3⟩, a, bb, cc, d, h2, h3, h4, h5, h6, h7, h8, h9, h10, h11, h12, h13⟩ := K1
    have K1 : RS w0 A w1 S (wT S p) (nI (wF S p)) (nI (wT S p)) (ng ls.length) M b q ca ls ns := ⟨⟨k1, k2⟩, k3, ⟨ms, m1, m2, m3⟩, a, bb, cc, d, h2, h3, h4, h5, h6, h7, h8, h9, h10, h11, h12, h13⟩
    have rc1 := rs_rc K1
    have as := ex_as_i (kd := 0) (n := ls.length) (x := nI y) h2 (by omega) (by omega)
    have t1 : (w1.set 42 (.inr (0, a.set ls.length (nI y))))[32]? = some (rd A (nI M.length) (nI S.length) (nI (wT S p)) (nI (wF S p)) (nI (wT S p)) (-1) (nI b) (nI q) (nI ca) (nI ls.length) (nI ns.length) (ng ls.length)) := ex_set_o (by decide) k3
    have pf : ex_pf (w1.set 42 (.inr (0, a.set ls.length (nI y)))) 32 8 24 (.int (nI (ls.length + 1))) = some ((w1.set 42 (.inr (0, a.set ls.length (nI y)))).set 32 (rd A (nI M.length) (nI S.length) (nI (wT S p)) (nI (wF S p)) (nI (wT S p)) (-1) (nI b) (nI q) (nI ca) (nI (ls.length + 1)) (nI ns.length) (ng ls.length))) := ex_pf_i t1 (Nat.le_of_ble_eq_true rfl)
    have o : ∀ j, j ≠ 32 → j ≠ 42 → ((w1.set 42 (.inr (0, a.set ls.length (nI y)))).set 32 (rd A (nI M.length) (nI S.length) (nI (wT S p)) (nI (wF S p)) (nI (wT S p)) (-1) (nI b) (nI q) (nI ca) (nI (ls.length + 1)) (nI ns.length) (ng ls.length)))[j]? = w1[j]? := by
      intro j x1 x2
      rw [List.getElem?_set_ne (Ne.symm x1), List.getElem?_set_ne (Ne.symm x2)]
    refine ⟨_, ng ls.length, ?_, ⟨⟨by rw [List.length_set, List.length_set]; exact k1, fun j hj => (o j (by omega) (by omega)).trans (k2 j hj)⟩, ?_, ⟨ms, (o 34 (by decide) (by decide)).trans m1, m2, m3⟩, a.set ls.length (nI y), bb, cc, d, ex_set_o (by decide) (ex_set_s h2), by rw [List.length_set]; exact h3, holds_app h4 (by omega), (o 43 (by decide) (by decide)).trans h5, h6, h7, (o 44 (by decide) (by decide)).trans h8, h9, h10, (o 45 (by decide) (by decide)).trans h11, h12, h13⟩⟩
    · show ex_go X 155 0 [(0, .ref 32), (1, .int (nI st))] [] w = _
      simp (disch := first | assumption | decide) only [s155_0, s155_1, s155_2, s155_5, s155_6, s155_7, s155_10, s155_13, s155_14, s155_17, s155_18, s155_21, s155_22, s155_23, s155_24, s155_27, s155_28, s155_31, s155_32, s155_33, s155_36, s155_37, s155_40, s155_41, s155_44, s155_45, s155_46, s155_47, s155_48, s155_49, s155_52, s155_53, s155_54, s155_57, s155_58, rs_g K, List.getElem?_cons_zero, List.getElem?_cons_succ, Option.bind_some, Option.toList_some, Option.toList_none, List.cons_append, List.nil_append, not_true_eq_false, if_false, if_true, nI_1, a1, if_neg n1, rs_g K1, g0, sb, as, ex_gf_i t1, pf]
    · rw [List.length_append, List.length_singleton]
      exact ex_set_s t1
  · intro hN
    by_cases cN : ∃ N, numW S (wF S p + 1) (wT S p) = some N ∧ N ≤ 2 ^ 63
    · obtain ⟨N, hN2, cN2⟩ := cN
      obtain ⟨w1, a1, K1⟩ := dg.1 N hN2 cN2
      have g0 : ¬ lg_cmp (ng N) (-(nI ls.length)).toInt64 = 0 := fun z => by
        have := (lg_cmp_eq _ _).mp z
        rw [← Int64.toInt_inj, tl, ng_toInt cN2] at this
        apply hN
        rw [hN2, show N = ls.length by omega]
      have rc1 := rs_rc K1
      obtain ⟨w2, a2, F2⟩ := y_wrong (X := X) K1
      refine ⟨w2, ?_, F2⟩
      show ex_go X 155 0 [(0, .ref 32), (1, .int (nI st))] [] w = _
      simp (disch := first | assumption | decide) only [s155_0, s155_1, s155_2, s155_5, s155_6, s155_7, s155_10, s155_13, s155_14, s155_17, s155_18, s155_21, s155_22, s155_23, s155_24, s155_27, s155_28, s155_31, rs_g K, List.getElem?_cons_zero, List.getElem?_cons_succ, Option.bind_some, Option.toList_some, Option.toList_none, List.cons_append, List.nil_append, not_true_eq_false, if_false, if_true, nI_1, a1, if_neg n1, rs_g K1, if_neg g0, a2]
    · obtain ⟨w1, v1, a1, K1⟩ := dg.2 cN
      have rc1 := rs_rc K1
      obtain ⟨w2, a2, F2⟩ := y_wrong (X := X) K1
      refine ⟨w2, ?_, F2⟩
      show ex_go X 155 0 [(0, .ref 32), (1, .int (nI st))] [] w = _
      simp (disch := first | assumption | decide) only [s155_0, s155_1, s155_2, s155_5, s155_6, s155_7, s155_10, s155_13, s155_14, s155_17, s155_18, s155_21, s155_22, s155_23, s155_24, s155_27, s155_28, s155_31, rs_g K, List.getElem?_cons_zero, List.getElem?_cons_succ, Option.bind_some, Option.toList_some, Option.toList_none, List.cons_append, List.nil_append, not_true_eq_false, if_false, if_true, nI_1, a1, a2]
theorem rl_ln {j : Nat} (K : RS w0 A w S p fr to v M b q ca ls ns) (hj : j < ls.length) : ex_al w 42 0 (nI j) = some (nI (ls.getD j 0)) := by
  obtain ⟨_, _, _, a, bb, c, d, h2, h3, h4, _⟩ := K
  have := h4.1
  rw [ex_al_i h2 (by omega) (by omega), h4.2 j hj]
theorem rl_al {i : Nat} (K : RS w0 A w S p fr to v M b q ca ls ns) (hi : i < ns.length) : ex_al w 43 0 (nI i) = some (nI (ns.getD i (0, 0, 0)).2.2) ∧ ex_al w 44 0 (nI i) = some (nI (ns.getD i (0, 0, 0)).2.1) ∧ ex_al w 45 0 (nI i) = some (nI (nm1 (ns.getD i (0, 0, 0)))) := by
  obtain ⟨l1, l2⟩ := rl_60 K
  obtain ⟨_, _, _, a, bb, c, d, h2, h3, h4, h5, h6, h7, h8, h9, h10, h11, h12, h13⟩ := K
  have m1 : (ns.map (fun n : Nat × Nat × Nat => n.2.2)).length = ns.length := List.length_map _
  have m2 : (ns.map (fun n : Nat × Nat × Nat => n.2.1)).length = ns.length := List.length_map _
  have m3 : (ns.map nm1).length = ns.length := List.length_map _
  refine ⟨?_, ?_, ?_⟩
  · rw [ex_al_i h5 (by omega) (by omega), h7.2 i (by omega), map3 hi]
  · rw [ex_al_i h8 (by omega) (by omega), h10.2 i (by omega), map3 hi]
  · rw [ex_al_i h11 (by omega) (by omega), h13.2 i (by omega), map3 hi]
theorem y_finishLoop {f st : Nat} : ∀ (k i : Nat) (M : List Nat) (w : ex_W), i + k = ns.length → RS w0 A w S p (nI f) to v M b q ca ls ns → (∀ n, n ∈ ns → n.2.2 + 1 < M.length) → 1 ≤ st → st ≤ M.length → (∀ M2, stl ls (ns.drop i) M = some M2 → ∃ w2, ex_go X 154 2 [(0, .ref 32), (1, .int (nI st)), (2, .int (nI i))] [] w = some (some (.int 1), w2) ∧ RS w0 A w2 S p (nI f) to v (M2.set (st - 1) (M.length - st)) b q ca ls ns) ∧ (stl ls (ns.drop i) M = none → ∃ w2, ex_go X 154 2 [(0, .ref 32), (1, .int (nI st)), (2, .int (nI i))] [] w = some (some (.int 0), w2) ∧ RF w0 A w2 f) := by
  intro k
  induction k with
  | zero =>
    intro i M w hi K hc h1 hst
    obtain ⟨l1, l2⟩ := rl_60 K
    have h140 := rs_140 K
    have e : nI ns.length ≤ nI i := nI_le (by omega) (by omega)
    rw [List.drop_eq_nil_of_le (by omega), stl]
    refine ⟨fun M2 z => ?_, fun z => (by cases z)⟩
    cases z
    obtain ⟨w2, a2, K2⟩ := rs_as (i := st - 1) (c := M.length - st) K (by omega)
    have s1 : nI st - 1 = nI (st - 1) := pk_sub (b := 1) h1
    have s2 : nI M.length - nI st = nI (M.length - st) := pk_sub hst
    refine ⟨w2, ?_, K2⟩
    simp (disch := first | assumption | decide) only [s154_2, s154_3, s154_4, s154_7, s154_90, s154_91, s154_94, s154_95, s154_96, s154_97, s154_98, s154_101, s154_102, s154_103, s154_104, s154_105, rs_g K, List.getElem?_cons_zero, List.getElem?_cons_succ, Option.bind_some, Option.toList_some, Option.toList_none, List.cons_append, List.nil_append, not_true_eq_false, if_false, if_true, if_pos e, s1, s2, a2]
  | succ k ih =>
    intro i M w hi K hc h1 hst
    obtain ⟨l1, l2⟩ := rl_60 K
    have h140 := rs_140 K
    have rc := rs_rc K
    have e : ¬ nI ns.length ≤ nI i := nI_ge (by omega) (by omega)
    obtain ⟨al1, al2, al3⟩ := rl_al (i := i) K (by omega)
    rw [drop3 (by omega), stl]
    have hmem := mem3 (l := ns) (i := i) (by omega)
    have nk : nm1 (ns.getD i (0, 0, 0)) ≤ 1000 := by unfold nm1; split <;> omega
    have en : nm1 (ns.getD i (0, 0, 0)) < ls.length ↔ (ns.getD i (0, 0, 0)).1 < ls.length := by
      unfold nm1
      by_cases c : (ns.getD i (0, 0, 0)).1 ≤ 1000
      · rw [if_pos c]
      · rw [if_neg c]; omega
    by_cases cn : (ns.getD i (0, 0, 0)).1 < ls.length
    · have cn2 := en.mpr cn
      have c1 : nI (nm1 (ns.getD i (0, 0, 0))) < nI ls.length := nI_lt cn2 (by omega)
      have nn : nm1 (ns.getD i (0, 0, 0)) = (ns.getD i (0, 0, 0)).1 := by unfold nm1; rw [if_pos (by omega)]
      have ln := rl_ln K cn
      have hcc := hc _ hmem
      obtain ⟨w2, a2, K2⟩ := rs_as (i := (ns.getD i (0, 0, 0)).2.2) (c := dHi (ls.getD (ns.getD i (0, 0, 0)).1 0) (ns.getD i (0, 0, 0)).2.1) K (by omega)
      obtain ⟨bl1, bl2, bl3⟩ := rl_al (i := i) K2 (by omega)
      obtain ⟨w3, a3, K3⟩ := rs_as (i := (ns.getD i (0, 0, 0)).2.2 + 1) (c := dLo (ls.getD (ns.getD i (0, 0, 0)).1 0) (ns.getD i (0, 0, 0)).2.1) K2 (by rw [List.length_set]; exact hcc)
      have ihh := ih (i + 1) _ w3 (by omega) K3 (fun n hn => by rw [List.length_set, List.length_set]; exact hc n hn) h1 (by rw [List.length_set, List.length_set]; exact hst)
      rw [List.length_set, List.length_set] at ihh
      rw [if_pos cn]
      rw [nn] at al3 c1
      have st0 : ex_go X 154 2 [(0, .ref 32), (1, .int (nI st)), (2, .int (nI i))] [] w = ex_go X 154 2 [(0, .ref 32), (1, .int (nI st)), (2, .int (nI (i + 1)))] [] w3 := by
        rw [s154_2]
        simp (disch := first | assumption | decide) only [s154_3, s154_4, s154_7, s154_10, s154_11, s154_14, s154_15, s154_16, s154_17, s154_20, s154_23, s154_24, s154_27, s154_28, s154_29, s154_32, s154_33, s154_36, s154_37, s154_38, s154_39, s154_40, s154_43, s154_44, s154_45, s154_46, s154_47, s154_48, s154_51, s154_52, s154_55, s154_56, s154_57, s154_58, s154_60, s154_61, s154_64, s154_65, s154_66, s154_67, s154_70, s154_71, s154_74, s154_75, s154_76, s154_77, s154_78, s154_79, s154_82, s154_83, s154_84, s154_87, rs_g K, List.getElem?_cons_zero, List.getElem?_cons_succ, Option.bind_some, Option.toList_some, Option.toList_none, List.cons_append, List.nil_append, not_true_eq_false, if_false, if_true, if_neg e, al3, if_pos c1, ln, al2, al1, dHi_and, a2, rs_g K2, bl1, nI_1, dLo_and, a3]
      rw [st0]
      exact ihh
    · have c1 : ¬ nI (nm1 (ns.getD i (0, 0, 0))) < nI ls.length := nI_nlt (by omega) (by omega)
      rw [if_neg cn]
      obtain ⟨w2, a2, F2⟩ := y_wrong (X := X) K
      refine ⟨fun M2 z => (by cases z), fun _ => ⟨w2, ?_, F2⟩⟩
      simp (disch := first | assumption | decide) only [s154_2, s154_3, s154_4, s154_7, s154_10, s154_11, s154_14, s154_15, s154_16, s154_17, s154_20, s154_23, s154_24, s154_27, rs_g K, List.getElem?_cons_zero, List.getElem?_cons_succ, Option.bind_some, Option.toList_some, Option.toList_none, List.cons_append, List.nil_append, not_true_eq_false, if_false, if_true, if_neg e, al3, if_neg c1, a2]
theorem y_finish {f st : Nat} (K : RS w0 A w S p (nI f) to v M b q ca ls ns) (hc : ∀ n, n ∈ ns → n.2.2 + 1 < M.length) (h1 : 1 ≤ st) (hst : st ≤ M.length) : (∀ M2, stl ls ns M = some M2 → ∃ w2, ex_call X 154 [.ref 32, .int (nI st)] w = some (some (.int 1), w2) ∧ RS w0 A w2 S p (nI f) to v (M2.set (st - 1) (M.length - st)) b q ca ls ns) ∧ (stl ls ns M = none → ∃ w2, ex_call X 154 [.ref 32, .int (nI st)] w = some (some (.int 0), w2) ∧ RF w0 A w2 f) := by
  have lp := y_finishLoop (X := X) (st := st) ns.length 0 M w (by omega) K hc h1 hst
  rw [List.drop_zero] at lp
  have st0 : ex_call X 154 [.ref 32, .int (nI st)] w = ex_go X 154 2 [(0, .ref 32), (1, .int (nI st)), (2, .int (nI 0))] [] w := by
    show ex_go X 154 0 [(0, .ref 32), (1, .int (nI st))] [] w = _
    simp (disch := first | assumption | decide) only [s154_0, s154_1]
    rfl
  rw [st0]
  exact lp
end REF8
