/-! the other object reads a text -/
def itR (w0 : ex_W) (A : Nat → Int32) (S : List Nat) (o : ex_O) (r : Nat ⊕ (Nat × Nat × List Nat)) (p b : Nat) (D : List Nat) (I : List (List Nat)) (q : Nat) : Prop := (∀ k t xs, r = .inr (k, t, xs) → ∃ w2 fr2 to2 v2 ls2 ns2, o = some (some (.int 1), w2) ∧ RS w0 A w2 S t fr2 to2 v2 (nxD D I q k ++ ((nxI I q k).length + 1) :: (nxI I q k).flatten ++ xs) (b + xs.length) k (nxD D I q k).length ls2 ns2 ∧ t ≤ S.length ∧ p < t ∧ q ≤ k ∧ k ≤ 3 ∧ b + xs.length ≤ 120) ∧ (∀ f, r = .inl f → ∃ w2, o = some (some (.int 0), w2) ∧ RF w0 A w2 f)
theorem bytP_t {S : List Nat} {p b t : Nat} {xs : List Nat} (h : bytP S p b = .inr (t, xs)) : t = wT S p := by
  unfold bytP one at h
  split at h
  next ys e => cases h; rfl
  next => cases h
theorem twoP_t {S : List Nat} {p b t : Nat} {xs : List Nat} (hp : p ≤ S.length) (h : twoP S p b = .inr (t, xs)) : p ≤ t := by
  unfold twoP andP at h
  split at h
  next => cases h
  next t1 ys e =>
    split at h
    next => cases h
    next t2 zs e2 =>
      cases h
      have h1 := bytP_t e
      have h2 := bytP_t e2
      have w1 := w_b hp
      have w2 := w_b w1.2.2.1
      rw [h1] at h2
      omega
section REFA
variable {X : Option (List Int32)} {w0 w : ex_W} {A : Nat → Int32} {S : List Nat} {p : Nat} {fr to : Int32} {v : Int64} {M : List Nat} {b q ca : Nat} {ls : List Nat} {ns : NM}
theorem y_readOne {J : Nat → Nat → Prop} {D : List Nat} {I : List (List Nat)} (K : RS w0 A w S (wT S p) (nI (wF S p)) (nI (wT S p)) v (M0 D I) b q D.length ls ns) (E : isSr w0 S) (hC : chOK S) (hJ : lnJ S J) (hp : p ≤ S.length) (hw : wF S p < wT S p) (hq : q ≤ 3) (hM : (M0 D I).length + 3 - q = b) (hb : b ≤ 120) (hI : I.length < 2 ^ 20) : itR w0 A S (ex_call X 147 [.ref 32] w) (itemP S q p b) p b D I q := by
  have hl := lt_len E
  have rc := rs_rc K
  have n1 : ¬ (1 : Int32) = 0 := by decide
  have wb := w_b hp
  have i1 : ex_call X 141 [.ref 32, .int 105, .int 110, .int 116, .int 0, .int 0, .int 0] w = _ := y_is (X := X) (xs := txN 1) (c0 := 105) (c1 := 110) (c2 := 116) (c3 := 0) (c4 := 0) (c5 := 0) K E hp hw (by decide) (by decide +kernel) (by decide +kernel) (by decide +kernel) (by decide +kernel) (by decide +kernel) (by decide +kernel) (by decide +kernel)
  have i2 : ex_call X 141 [.ref 32, .int 110, .int 97, .int 109, .int 101, .int 0, .int 0] w = _ := y_is (X := X) (xs := txN 2) (c0 := 110) (c1 := 97) (c2 := 109) (c3 := 101) (c4 := 0) (c5 := 0) K E hp hw (by decide) (by decide +kernel) (by decide +kernel) (by decide +kernel) (by decide +kernel) (by decide +kernel) (by decide +kernel) (by decide +kernel)
  have i3 : ex_call X 141 [.ref 32, .int 112, .int 97, .int 105, .int 114, .int 0, .int 0] w = _ := y_is (X := X) (xs := txN 3) (c0 := 112) (c1 := 97) (c2 := 105) (c3 := 114) (c4 := 0) (c5 := 0) K E hp hw (by decide) (by decide +kernel) (by decide +kernel) (by decide +kernel) (by decide +kernel) (by decide +kernel) (by decide +kernel) (by decide +kernel)
  have i4 : ex_call X 141 [.ref 32, .int 108, .int 111, .int 110, .int 103, .int 0, .int 0] w = _ := y_is (X := X) (xs := txN 4) (c0 := 108) (c1 := 111) (c2 := 110) (c3 := 103) (c4 := 0) (c5 := 0) K E hp hw (by decide) (by decide +kernel) (by decide +kernel) (by decide +kernel) (by decide +kernel) (by decide +kernel) (by decide +kernel) (by decide +kernel)
  have i5 : ex_call X 141 [.ref 32, .int 102, .int 105, .int 101, .int 108, .int 100, .int 0] w = _ := y_is (X := X) (xs := txN 5) (c0 := 102) (c1 := 105) (c2 := 101) (c3 := 108) (c4 := 100) (c5 := 0) K E hp hw (by decide) (by decide +kernel) (by decide +kernel) (by decide +kernel) (by decide +kernel) (by decide +kernel) (by decide +kernel) (by decide +kernel)
  have i6 : ex_call X 141 [.ref 32, .int 99, .int 111, .int 100, .int 101, .int 0, .int 0] w = _ := y_is (X := X) (xs := txN 6) (c0 := 99) (c1 := 111) (c2 := 100) (c3 := 101) (c4 := 0) (c5 := 0) K E hp hw (by decide) (by decide +kernel) (by decide +kernel) (by decide +kernel) (by decide +kernel) (by decide +kernel) (by decide +kernel) (by decide +kernel)
  have i7 : ex_call X 141 [.ref 32, .int 97, .int 116, .int 116, .int 97, .int 99, .int 104] w = _ := y_is (X := X) (xs := txN 7) (c0 := 97) (c1 := 116) (c2 := 116) (c3 := 97) (c4 := 99) (c5 := 104) K E hp hw (by decide) (by decide +kernel) (by decide +kernel) (by decide +kernel) (by decide +kernel) (by decide +kernel) (by decide +kernel) (by decide +kernel)
  -- a pool entry
  have ent : ∀ kd, (1 ≤ kd ∧ kd ≤ 4) → kwN S p = kd → (∀ x w2, (x = 0 ∨ x = 1) → ex_call X 148 [.ref 32, .int (nI kd)] w = some (some (.int x), w2) → ex_call X 147 [.ref 32] w = some (some (.int x), w2)) → itR w0 A S (ex_call X 147 [.ref 32] w) (itemP S q p b) p b D I q := by
    intro kd hkd hk hd
    unfold itemP
    rw [hk, if_pos (by omega)]
    have re := y_readEntry (X := X) (kd := kd) hkd K E hC wb.2.2.1 hq hM hb hI
    by_cases cq : q = 0 ∧ b + 1 ≤ 120
    · rw [if_pos cq]
      have o := re.1 cq
      cases hE : entP S kd (wT S p) (b + 1) with
      | inl f =>
        refine ⟨fun k t xs z => (by cases z), fun g z => ?_⟩
        cases z
        obtain ⟨w3, a3, F3⟩ := o.2 f hE
        exact ⟨w3, hd 0 w3 (Or.inl rfl) a3, F3⟩
      | inr u =>
        obtain ⟨t, xs⟩ := u
        refine ⟨fun k t xs z => ?_, fun g z => (by cases z)⟩
        cases z
        obtain ⟨w3, fr3, to3, v3, a3, K3, t3, b3⟩ := o.1 t xs hE
        have hpt : wT S p ≤ t := by
          have w2 := w_b wb.2.2.1
          have one_le : ∀ (q : Option (List Nat)), one S (wT S p) q = .inr (t, xs) → wT S p ≤ t := by
            intro q h
            unfold one at h
            split at h
            next => cases h; omega
            next => cases h
          unfold entP at hE
          split at hE
          · exact one_le _ hE
          · split at hE
            · exact one_le _ hE
            · split at hE
              · exact twoP_t wb.2.2.1 hE
              · exact one_le _ hE
        have eq0 := cq.1
        refine ⟨w3, fr3, to3, v3, ls, ns, hd 1 w3 (Or.inr rfl) a3, ?_, t3, by omega, by omega, by decide, by rw [List.length_cons]; omega⟩
        rw [List.append_assoc] at K3
        have eb : b + (kd :: xs).length = b + 1 + xs.length := by rw [List.length_cons]; omega
        rw [eb]
        exact K3
    · rw [if_neg cq]
      refine ⟨fun k t xs z => (by cases z), fun g z => ?_⟩
      cases z
      obtain ⟨w3, a3, F3⟩ := re.2 cq
      exact ⟨w3, hd 0 w3 (Or.inl rfl) a3, F3⟩
  by_cases c1 : wd S p = txN 1
  · rw [if_pos c1] at i1
    refine ent 1 (by decide) (if_pos c1) (fun x w2 hx h => ?_)
    have h : ex_call X 148 [.ref 32, .int 1] w = some (some (.int x), w2) := h
    show ex_go X 147 0 [(0, .ref 32)] [] w = _
    simp (disch := first | assumption | decide) only [s147_0, s147_1, s147_3, s147_5, s147_7, s147_8, s147_9, s147_10, s147_13, s147_16, s147_17, s147_18, s147_21, i1, List.getElem?_cons_zero, List.getElem?_cons_succ, Option.bind_some, Option.toList_some, Option.toList_none, List.cons_append, List.nil_append, not_true_eq_false, if_false, if_true, if_neg n1, h]
  · rw [if_neg c1] at i1
    by_cases c2 : wd S p = txN 2
    · rw [if_pos c2] at i2
      refine ent 2 (by decide) (by unfold kwN; rw [if_neg c1, if_pos c2]) (fun x w2 hx h => ?_)
      have h : ex_call X 148 [.ref 32, .int 2] w = some (some (.int x), w2) := h
      show ex_go X 147 0 [(0, .ref 32)] [] w = _
      simp (disch := first | assumption | decide) only [s147_0, s147_1, s147_3, s147_5, s147_7, s147_8, s147_9, s147_10, s147_13, s147_16, s147_17, s147_18, s147_21, s147_22, s147_23, s147_25, s147_27, s147_29, s147_31, s147_32, s147_33, s147_36, s147_39, s147_40, s147_41, s147_44, i1, i2, List.getElem?_cons_zero, List.getElem?_cons_succ, Option.bind_some, Option.toList_some, Option.toList_none, List.cons_append, List.nil_append, not_true_eq_false, if_false, if_true, if_neg n1, h]
    · rw [if_neg c2] at i2
      by_cases c3 : wd S p = txN 3
      · rw [if_pos c3] at i3
        refine ent 3 (by decide) (by unfold kwN; rw [if_neg c1, if_neg c2, if_pos c3]) (fun x w2 hx h => ?_)
        have h : ex_call X 148 [.ref 32, .int 3] w = some (some (.int x), w2) := h
        show ex_go X 147 0 [(0, .ref 32)] [] w = _
        simp (disch := first | assumption | decide) only [s147_0, s147_1, s147_3, s147_5, s147_7, s147_8, s147_9, s147_10, s147_13, s147_16, s147_17, s147_18, s147_21, s147_22, s147_23, s147_25, s147_27, s147_29, s147_31, s147_32, s147_33, s147_36, s147_39, s147_40, s147_41, s147_44, s147_45, s147_46, s147_48, s147_50, s147_52, s147_54, s147_55, s147_56, s147_59, s147_62, s147_63, s147_64, s147_67, i1, i2, i3, List.getElem?_cons_zero, List.getElem?_cons_succ, Option.bind_some, Option.toList_some, Option.toList_none, List.cons_append, List.nil_append, not_true_eq_false, if_false, if_true, if_neg n1, h]
      · rw [if_neg c3] at i3
        by_cases c4 : wd S p = txN 4
        · rw [if_pos c4] at i4
          refine ent 4 (by decide) (by unfold kwN; rw [if_neg c1, if_neg c2, if_neg c3, if_pos c4]) (fun x w2 hx h => ?_)
          have h : ex_call X 148 [.ref 32, .int 4] w = some (some (.int x), w2) := h
          show ex_go X 147 0 [(0, .ref 32)] [] w = _
          simp (disch := first | assumption | decide) only [s147_0, s147_1, s147_3, s147_5, s147_7, s147_8, s147_9, s147_10, s147_13, s147_16, s147_17, s147_18, s147_21, s147_22, s147_23, s147_25, s147_27, s147_29, s147_31, s147_32, s147_33, s147_36, s147_39, s147_40, s147_41, s147_44, s147_45, s147_46, s147_48, s147_50, s147_52, s147_54, s147_55, s147_56, s147_59, s147_62, s147_63, s147_64, s147_67, s147_68, s147_69, s147_71, s147_73, s147_75, s147_77, s147_78, s147_79, s147_82, s147_85, s147_86, s147_87, s147_90, i1, i2, i3, i4, List.getElem?_cons_zero, List.getElem?_cons_succ, Option.bind_some, Option.toList_some, Option.toList_none, List.cons_append, List.nil_append, not_true_eq_false, if_false, if_true, if_neg n1, h]
        · rw [if_neg c4] at i4
          have kw0 : kwN S p = 0 := by unfold kwN; rw [if_neg c1, if_neg c2, if_neg c3, if_neg c4]
          unfold itemP
          rw [if_neg (fun z => z kw0)]
          -- enter a part
          have ln : ∀ k, q ≤ k → k ≤ 3 → (nxD D I q k ++ ((nxI I q k).length + 1) :: (nxI I q k).flatten).length ≤ b := by
            intro k h1 h2
            have := congrArg List.length (nx_M0 (D := D) (I := I) h1)
            rw [M0_len, List.length_append, List.length_replicate] at this
            rw [List.length_append, List.length_cons]
            omega
          have fin : ∀ (k : Nat) (r : PR) (M2 : List Nat), M2 = nxD D I q k ++ ((nxI I q k).length + 1) :: (nxI I q k).flatten → q ≤ k → k ≤ 3 → outR w0 A S (ex_call X 147 [.ref 32] w) r M2 b k (nxD D I q k).length ls ns → (∀ t xs, r = .inr (t, xs) → p < t) → itR w0 A S (ex_call X 147 [.ref 32] w) (match r with | .inl f => .inl f | .inr (t, xs) => .inr (k, t, xs)) p b D I q := by
            intro k r M2 e hk1 hk2 o hpt
            subst e
            cases r with
            | inl f =>
              refine ⟨fun k t xs z => (by cases z), fun g z => ?_⟩
              cases z
              exact o.2 f rfl
            | inr u =>
              obtain ⟨t, xs⟩ := u
              refine ⟨fun k t xs z => ?_, fun g z => (by cases z)⟩
              cases z
              obtain ⟨w3, fr3, to3, v3, a3, K3, t3, b3⟩ := o.1 t xs rfl
              exact ⟨w3, fr3, to3, v3, ls, ns, a3, K3, t3, hpt t xs rfl, hk1, hk2, b3⟩
          by_cases c5 : wd S p = txN 5
          · rw [if_pos c5] at i5
            have pw : pwN S p = 1 := if_pos c5
            have en := y_enter (X := X) (k := 1) K (by decide) hq (by omega) hI
            rw [pw]
            by_cases cq : q ≤ 1
            · rw [if_neg (by omega), if_pos rfl]
              obtain ⟨w1, a1, K1⟩ := en.1 cq
              have a1 : ex_call X 149 [.ref 32, .int 1] w = some (some (.int 1), w1) := a1
              have rc1 := rs_rc K1
              have o2 := y_two (X := X) (o := ex_call X 147 [.ref 32] w) K1 E wb.2.2.1 (ln 1 cq (by decide)) hb (fun w2 h => by
                show ex_go X 147 0 [(0, .ref 32)] [] w = _
                simp (disch := first | assumption | decide) only [s147_0, s147_1, s147_3, s147_5, s147_7, s147_8, s147_9, s147_10, s147_13, s147_16, s147_17, s147_18, s147_21, s147_22, s147_23, s147_25, s147_27, s147_29, s147_31, s147_32, s147_33, s147_36, s147_39, s147_40, s147_41, s147_44, s147_45, s147_46, s147_48, s147_50, s147_52, s147_54, s147_55, s147_56, s147_59, s147_62, s147_63, s147_64, s147_67, s147_68, s147_69, s147_71, s147_73, s147_75, s147_77, s147_78, s147_79, s147_82, s147_85, s147_86, s147_87, s147_90, s147_91, s147_92, s147_94, s147_96, s147_98, s147_100, s147_102, s147_103, s147_106, s147_109, s147_110, s147_111, s147_114, s147_117, s147_118, s147_119, s147_122, s147_125, s147_128, s147_129, s147_130, s147_133, s147_136, s147_139, s147_140, s147_143, s147_144, i1, i2, i3, i4, i5, List.getElem?_cons_zero, List.getElem?_cons_succ, Option.bind_some, Option.toList_some, Option.toList_none, List.cons_append, List.nil_append, not_true_eq_false, if_false, if_true, if_neg n1, a1, h]) (fun w2 w3 x hx h hrc h3 => by
                show ex_go X 147 0 [(0, .ref 32)] [] w = _
                rcases hx with z | z <;> subst z
                · simp (disch := first | assumption | decide) only [s147_0, s147_1, s147_3, s147_5, s147_7, s147_8, s147_9, s147_10, s147_13, s147_16, s147_17, s147_18, s147_21, s147_22, s147_23, s147_25, s147_27, s147_29, s147_31, s147_32, s147_33, s147_36, s147_39, s147_40, s147_41, s147_44, s147_45, s147_46, s147_48, s147_50, s147_52, s147_54, s147_55, s147_56, s147_59, s147_62, s147_63, s147_64, s147_67, s147_68, s147_69, s147_71, s147_73, s147_75, s147_77, s147_78, s147_79, s147_82, s147_85, s147_86, s147_87, s147_90, s147_91, s147_92, s147_94, s147_96, s147_98, s147_100, s147_102, s147_103, s147_106, s147_109, s147_110, s147_111, s147_114, s147_117, s147_118, s147_119, s147_122, s147_125, s147_128, s147_129, s147_130, s147_133, s147_136, s147_139, s147_140, s147_143, s147_144, i1, i2, i3, i4, i5, List.getElem?_cons_zero, List.getElem?_cons_succ, Option.bind_some, Option.toList_some, Option.toList_none, List.cons_append, List.nil_append, not_true_eq_false, if_false, if_true, if_neg n1, a1, h, h3]
                · simp (disch := first | assumption | decide) only [s147_0, s147_1, s147_3, s147_5, s147_7, s147_8, s147_9, s147_10, s147_13, s147_16, s147_17, s147_18, s147_21, s147_22, s147_23, s147_25, s147_27, s147_29, s147_31, s147_32, s147_33, s147_36, s147_39, s147_40, s147_41, s147_44, s147_45, s147_46, s147_48, s147_50, s147_52, s147_54, s147_55, s147_56, s147_59, s147_62, s147_63, s147_64, s147_67, s147_68, s147_69, s147_71, s147_73, s147_75, s147_77, s147_78, s147_79, s147_82, s147_85, s147_86, s147_87, s147_90, s147_91, s147_92, s147_94, s147_96, s147_98, s147_100, s147_102, s147_103, s147_106, s147_109, s147_110, s147_111, s147_114, s147_117, s147_118, s147_119, s147_122, s147_125, s147_128, s147_129, s147_130, s147_133, s147_136, s147_139, s147_140, s147_143, s147_144, i1, i2, i3, i4, i5, List.getElem?_cons_zero, List.getElem?_cons_succ, Option.bind_some, Option.toList_some, Option.toList_none, List.cons_append, List.nil_append, not_true_eq_false, if_false, if_true, if_neg n1, a1, h, h3])
              exact fin 1 _ _ rfl cq (by decide) o2 (fun t xs h => by have := twoP_t wb.2.2.1 h; omega)
            · rw [if_pos (by omega)]
              obtain ⟨w1, a1, F1⟩ := en.2 cq
              have a1 : ex_call X 149 [.ref 32, .int 1] w = some (some (.int 0), w1) := a1
              refine ⟨fun k t xs z => (by cases z), fun g z => ?_⟩
              cases z
              refine ⟨w1, ?_, F1⟩
              show ex_go X 147 0 [(0, .ref 32)] [] w = _
              simp (disch := first | assumption | decide) only [s147_0, s147_1, s147_3, s147_5, s147_7, s147_8, s147_9, s147_10, s147_13, s147_16, s147_17, s147_18, s147_21, s147_22, s147_23, s147_25, s147_27, s147_29, s147_31, s147_32, s147_33, s147_36, s147_39, s147_40, s147_41, s147_44, s147_45, s147_46, s147_48, s147_50, s147_52, s147_54, s147_55, s147_56, s147_59, s147_62, s147_63, s147_64, s147_67, s147_68, s147_69, s147_71, s147_73, s147_75, s147_77, s147_78, s147_79, s147_82, s147_85, s147_86, s147_87, s147_90, s147_91, s147_92, s147_94, s147_96, s147_98, s147_100, s147_102, s147_103, s147_106, s147_109, s147_110, s147_111, s147_114, s147_117, s147_118, s147_119, s147_122, s147_125, s147_128, s147_129, s147_130, s147_133, s147_136, s147_139, s147_140, s147_143, s147_144, i1, i2, i3, i4, i5, List.getElem?_cons_zero, List.getElem?_cons_succ, Option.bind_some, Option.toList_some, Option.toList_none, List.cons_append, List.nil_append, not_true_eq_false, if_false, if_true, if_neg n1, a1]
          · rw [if_neg c5] at i5
            by_cases c6 : wd S p = txN 6
            · rw [if_pos c6] at i6
              have pw : pwN S p = 2 := by unfold pwN; rw [if_neg c5, if_pos c6]
              have en := y_enter (X := X) (k := 2) K (by decide) hq (by omega) hI
              have h147 : ∀ x w2, (x = 0 ∨ x = 1) → ex_call X 153 [.ref 32] w = some (some (.int x), w2) → ex_call X 147 [.ref 32] w = some (some (.int x), w2) := by
                intro x w2 hx h
                show ex_go X 147 0 [(0, .ref 32)] [] w = _
                simp (disch := first | assumption | decide) only [s147_0, s147_1, s147_3, s147_5, s147_7, s147_8, s147_9, s147_10, s147_13, s147_16, s147_17, s147_18, s147_21, s147_22, s147_23, s147_25, s147_27, s147_29, s147_31, s147_32, s147_33, s147_36, s147_39, s147_40, s147_41, s147_44, s147_45, s147_46, s147_48, s147_50, s147_52, s147_54, s147_55, s147_56, s147_59, s147_62, s147_63, s147_64, s147_67, s147_68, s147_69, s147_71, s147_73, s147_75, s147_77, s147_78, s147_79, s147_82, s147_85, s147_86, s147_87, s147_90, s147_91, s147_92, s147_94, s147_96, s147_98, s147_100, s147_102, s147_103, s147_106, s147_145, s147_146, s147_148, s147_150, s147_152, s147_154, s147_155, s147_156, s147_159, s147_162, s147_163, s147_166, i1, i2, i3, i4, i5, i6, List.getElem?_cons_zero, List.getElem?_cons_succ, Option.bind_some, Option.toList_some, Option.toList_none, List.cons_append, List.nil_append, not_true_eq_false, if_false, if_true, if_neg n1, h]
              rw [pw]
              by_cases cq : q ≤ 2
              · rw [if_neg (by omega), if_neg (by decide), if_pos rfl]
                obtain ⟨w1, a1, K1⟩ := en.1 cq
                have a1 : ex_call X 149 [.ref 32, .int 2] w = some (some (.int 1), w1) := a1
                have rc1 := rs_rc K1
                have rb := y_readByte (X := X) (lo := 0) (hi := 255) K1 E wb.2.2.1 (ln 2 cq (by decide)) hb
                unfold twoP
                have bytE : ∀ (p b : Nat), bytP S p b = one S p (rNum S (0 : Int32).toInt64 (255 : Int32).toInt64 1 p b) := fun p b => rfl
                cases hA : bytP S (wT S p) b with
                | inl f =>
                  obtain ⟨w2, a2, F2⟩ := rb.2 f hA
                  refine ⟨fun k t xs z => (by cases z), fun g z => ?_⟩
                  cases z
                  refine ⟨w2, h147 0 w2 (Or.inl rfl) ?_, F2⟩
                  show ex_go X 153 0 [(0, .ref 32)] [] w = _
                  simp (disch := first | assumption | decide) only [s153_0, s153_1, s153_2, s153_5, s153_8, s153_9, s153_10, s153_13, s153_16, s153_19, s153_20, s153_21, s153_24, s153_27, s153_30, s153_31, s153_34, s153_37, s153_38, a1, List.getElem?_cons_zero, List.getElem?_cons_succ, Option.bind_some, Option.toList_some, Option.toList_none, List.cons_append, List.nil_append, not_true_eq_false, if_false, if_true, if_neg n1, a2]
                | inr u =>
                  obtain ⟨t, xs⟩ := u
                  obtain ⟨w2, fr2, to2, v2, a2, K2, t2, b2⟩ := rb.1 t xs hA
                  have rc2 := rs_rc K2
                  have et := bytP_t hA
                  have rb2 := y_readByte (X := X) (lo := 0) (hi := 255) K2 E t2 (by rw [List.length_append]; have := ln 2 cq (by decide); omega) b2
                  cases hB : bytP S t (b + xs.length) with
                  | inl f =>
                    obtain ⟨w3, a3, F3⟩ := rb2.2 f hB
                    have e : andP (andP (.inr (t, xs)) b (bytP S)) b (codeP S) = .inl f := by
                      unfold andP
                      simp only [hB]
                    rw [e]
                    refine ⟨fun k t xs z => (by cases z), fun g z => ?_⟩
                    cases z
                    refine ⟨w3, h147 0 w3 (Or.inl rfl) ?_, F3⟩
                    show ex_go X 153 0 [(0, .ref 32)] [] w = _
                    simp (disch := first | assumption | decide) only [s153_0, s153_1, s153_2, s153_5, s153_8, s153_9, s153_10, s153_13, s153_16, s153_19, s153_20, s153_21, s153_24, s153_27, s153_30, s153_31, s153_34, s153_37, s153_38, a1, List.getElem?_cons_zero, List.getElem?_cons_succ, Option.bind_some, Option.toList_some, Option.toList_none, List.cons_append, List.nil_append, not_true_eq_false, if_false, if_true, if_neg n1, a2, a3]
                  | inr u =>
                    obtain ⟨t3, ys⟩ := u
                    obtain ⟨w3, fr3, to3, v3, a3, K3, t3', b3⟩ := rb2.1 t3 ys hB
                    have et3 := bytP_t hB
                    have rc3 := rs_rc K3
                    have bl : b + (xs ++ ys).length = b + xs.length + ys.length := by rw [List.length_append]; omega
                    have cr := y_codeRest (X := X) K3 E hC hJ t3' (by rw [List.length_append, List.length_append]; have := ln 2 cq (by decide); omega) b3
                    have hd : ∀ x w4, ex_go X 153 30 [(0, .ref 32)] [] w3 = some (some (.int x), w4) → ex_call X 153 [.ref 32] w = some (some (.int x), w4) := by
                      intro x w4 h
                      show ex_go X 153 0 [(0, .ref 32)] [] w = _
                      simp (disch := first | assumption | decide) only [s153_0, s153_1, s153_2, s153_5, s153_8, s153_9, s153_10, s153_13, s153_16, s153_19, s153_20, s153_21, s153_24, s153_27, a1, List.getElem?_cons_zero, List.getElem?_cons_succ, Option.bind_some, Option.toList_some, Option.toList_none, List.cons_append, List.nil_append, not_true_eq_false, if_false, if_true, if_neg n1, a2, a3]
                      exact h
                    have w1b := w_b t2
                    have w1c := w_b wb.2.2.1
                    cases hP : codeP S t3 (b + xs.length + ys.length) with
                    | inl f =>
                      obtain ⟨w4, a4, F4⟩ := cr.2 f hP
                      have e : andP (andP (.inr (t, xs)) b (bytP S)) b (codeP S) = .inl f := by
                        unfold andP
                        simp only [hB, bl, hP]
                      rw [e]
                      refine ⟨fun k t xs z => (by cases z), fun g z => ?_⟩
                      cases z
                      exact ⟨w4, h147 0 w4 (Or.inl rfl) (hd 0 w4 a4), F4⟩
                    | inr u =>
                      obtain ⟨t4, zs⟩ := u
                      obtain ⟨w4, fr4, to4, v4, ls4, ns4, a4, K4, t4', p4, b4⟩ := cr.1 t4 zs hP
                      have e : andP (andP (.inr (t, xs)) b (bytP S)) b (codeP S) = .inr (t4, xs ++ ys ++ zs) := by
                        unfold andP
                        simp only [hB, bl, hP]
                      rw [e]
                      refine ⟨fun k t xs z => ?_, fun g z => (by cases z)⟩
                      cases z
                      refine ⟨w4, fr4, to4, v4, ls4, ns4, h147 1 w4 (Or.inr rfl) (hd 1 w4 a4), ?_, t4', by omega, cq, by decide, by rw [List.length_append, List.length_append]; omega⟩
                      have eb : b + (xs ++ ys ++ zs).length = b + xs.length + ys.length + zs.length := by rw [List.length_append, List.length_append]; omega
                      rw [eb, ← List.append_assoc, ← List.append_assoc]
                      exact K4
              · rw [if_pos (by omega)]
                obtain ⟨w1, a1, F1⟩ := en.2 cq
                have a1 : ex_call X 149 [.ref 32, .int 2] w = some (some (.int 0), w1) := a1
                refine ⟨fun k t xs z => (by cases z), fun g z => ?_⟩
                cases z
                refine ⟨w1, h147 0 w1 (Or.inl rfl) ?_, F1⟩
                show ex_go X 153 0 [(0, .ref 32)] [] w = _
                simp (disch := first | assumption | decide) only [s153_0, s153_1, s153_2, s153_5, s153_8, s153_9, s153_10, s153_13, s153_16, s153_19, s153_20, s153_21, s153_24, s153_27, s153_30, s153_31, s153_34, s153_37, s153_38, a1, List.getElem?_cons_zero, List.getElem?_cons_succ, Option.bind_some, Option.toList_some, Option.toList_none, List.cons_append, List.nil_append, not_true_eq_false, if_false, if_true]
            · rw [if_neg c6] at i6
              by_cases c7 : wd S p = txN 7
              · rw [if_pos c7] at i7
                have pw : pwN S p = 3 := by unfold pwN; rw [if_neg c5, if_neg c6, if_pos c7]
                have en := y_enter (X := X) (k := 3) K (by decide) hq (by omega) hI
                rw [pw, if_neg (by omega), if_neg (by decide), if_neg (by decide)]
                obtain ⟨w1, a1, K1⟩ := en.1 hq
                have a1 : ex_call X 149 [.ref 32, .int 3] w = some (some (.int 1), w1) := a1
                have rc1 := rs_rc K1
                have rb := y_readByte (X := X) (lo := 0) (hi := 255) K1 E wb.2.2.1 (ln 3 hq (by decide)) hb
                have o2 : outR w0 A S (ex_call X 147 [.ref 32] w) (andP (bytP S (wT S p) b) b (fun t b2 => one S t (rHex S 1 t b2))) (nxD D I q 3 ++ ((nxI I q 3).length + 1) :: (nxI I q 3).flatten) b 3 (nxD D I q 3).length ls ns := by
                  refine outR_and rb ?_ ?_
                  · intro w2 h
                    show ex_go X 147 0 [(0, .ref 32)] [] w = _
                    simp (disch := first | assumption | decide) only [s147_0, s147_1, s147_3, s147_5, s147_7, s147_8, s147_9, s147_10, s147_13, s147_16, s147_17, s147_18, s147_21, s147_22, s147_23, s147_25, s147_27, s147_29, s147_31, s147_32, s147_33, s147_36, s147_39, s147_40, s147_41, s147_44, s147_45, s147_46, s147_48, s147_50, s147_52, s147_54, s147_55, s147_56, s147_59, s147_62, s147_63, s147_64, s147_67, s147_68, s147_69, s147_71, s147_73, s147_75, s147_77, s147_78, s147_79, s147_82, s147_85, s147_86, s147_87, s147_90, s147_91, s147_92, s147_94, s147_96, s147_98, s147_100, s147_102, s147_103, s147_106, s147_145, s147_146, s147_148, s147_150, s147_152, s147_154, s147_155, s147_156, s147_159, s147_167, s147_168, s147_170, s147_172, s147_174, s147_176, s147_178, s147_180, s147_183, s147_186, s147_187, s147_188, s147_191, s147_194, s147_195, s147_196, s147_199, s147_202, s147_205, s147_206, s147_207, s147_208, s147_211, s147_214, s147_215, s147_218, s147_219, i1, i2, i3, i4, i5, i6, i7, List.getElem?_cons_zero, List.getElem?_cons_succ, Option.bind_some, Option.toList_some, Option.toList_none, List.cons_append, List.nil_append, not_true_eq_false, if_false, if_true, if_neg n1, a1, h]
                  · intro w2 fr2 to2 v2 t xs h K2 ht hb2
                    have rc2 := rs_rc K2
                    have rb2 := y_readBytes (X := X) (cn := 1) (nm := 0) (Or.inr rfl) (Or.inl rfl) K2 E hC ht (by rw [List.length_append]; have := ln 3 hq (by decide); omega) hb2
                    rw [if_pos rfl] at rb2
                    refine outR_via rb2 (fun x w3 hx h3 => ?_)
                    have h3 : ex_call X 151 [.ref 32, .int 1, .int 0] w2 = some (some (.int x), w3) := h3
                    show ex_go X 147 0 [(0, .ref 32)] [] w = _
                    rcases hx with z | z <;> subst z
                    · simp (disch := first | assumption | decide) only [s147_0, s147_1, s147_3, s147_5, s147_7, s147_8, s147_9, s147_10, s147_13, s147_16, s147_17, s147_18, s147_21, s147_22, s147_23, s147_25, s147_27, s147_29, s147_31, s147_32, s147_33, s147_36, s147_39, s147_40, s147_41, s147_44, s147_45, s147_46, s147_48, s147_50, s147_52, s147_54, s147_55, s147_56, s147_59, s147_62, s147_63, s147_64, s147_67, s147_68, s147_69, s147_71, s147_73, s147_75, s147_77, s147_78, s147_79, s147_82, s147_85, s147_86, s147_87, s147_90, s147_91, s147_92, s147_94, s147_96, s147_98, s147_100, s147_102, s147_103, s147_106, s147_145, s147_146, s147_148, s147_150, s147_152, s147_154, s147_155, s147_156, s147_159, s147_167, s147_168, s147_170, s147_172, s147_174, s147_176, s147_178, s147_180, s147_183, s147_186, s147_187, s147_188, s147_191, s147_194, s147_195, s147_196, s147_199, s147_202, s147_205, s147_206, s147_207, s147_208, s147_211, s147_214, s147_215, s147_218, s147_219, i1, i2, i3, i4, i5, i6, i7, List.getElem?_cons_zero, List.getElem?_cons_succ, Option.bind_some, Option.toList_some, Option.toList_none, List.cons_append, List.nil_append, not_true_eq_false, if_false, if_true, if_neg n1, a1, h, h3]
                    · simp (disch := first | assumption | decide) only [s147_0, s147_1, s147_3, s147_5, s147_7, s147_8, s147_9, s147_10, s147_13, s147_16, s147_17, s147_18, s147_21, s147_22, s147_23, s147_25, s147_27, s147_29, s147_31, s147_32, s147_33, s147_36, s147_39, s147_40, s147_41, s147_44, s147_45, s147_46, s147_48, s147_50, s147_52, s147_54, s147_55, s147_56, s147_59, s147_62, s147_63, s147_64, s147_67, s147_68, s147_69, s147_71, s147_73, s147_75, s147_77, s147_78, s147_79, s147_82, s147_85, s147_86, s147_87, s147_90, s147_91, s147_92, s147_94, s147_96, s147_98, s147_100, s147_102, s147_103, s147_106, s147_145, s147_146, s147_148, s147_150, s147_152, s147_154, s147_155, s147_156, s147_159, s147_167, s147_168, s147_170, s147_172, s147_174, s147_176, s147_178, s147_180, s147_183, s147_186, s147_187, s147_188, s147_191, s147_194, s147_195, s147_196, s147_199, s147_202, s147_205, s147_206, s147_207, s147_208, s147_211, s147_214, s147_215, s147_218, s147_219, i1, i2, i3, i4, i5, i6, i7, List.getElem?_cons_zero, List.getElem?_cons_succ, Option.bind_some, Option.toList_some, Option.toList_none, List.cons_append, List.nil_append, not_true_eq_false, if_false, if_true, if_neg n1, a1, h, h3]
                refine fin 3 _ _ rfl hq (by decide) o2 (fun t xs h => ?_)
                unfold andP at h
                split at h
                next => cases h
                next t1 ys e =>
                  split at h
                  next => cases h
                  next t2 zs e2 =>
                    cases h
                    have h1 := bytP_t e
                    have w2 := w_b wb.2.2.1
                    have e2 : one S t1 (rHex S 1 t1 (b + ys.length)) = .inr (t, zs) := e2
                    unfold one at e2
                    split at e2
                    next us e3 =>
                      cases e2
                      have w3 := w_b w2.2.2.1
                      rw [h1]
                      omega
                    next => cases e2
              · rw [if_neg c7] at i7
                have pw : pwN S p = 0 := by unfold pwN; rw [if_neg c5, if_neg c6, if_neg c7]
                rw [pw, if_pos (Or.inl rfl)]
                obtain ⟨w1, a1, F1⟩ := y_wrong (X := X) K
                refine ⟨fun k t xs z => (by cases z), fun g z => ?_⟩
                cases z
                refine ⟨w1, ?_, F1⟩
                show ex_go X 147 0 [(0, .ref 32)] [] w = _
                simp (disch := first | assumption | decide) only [s147_0, s147_1, s147_3, s147_5, s147_7, s147_8, s147_9, s147_10, s147_13, s147_16, s147_17, s147_18, s147_21, s147_22, s147_23, s147_25, s147_27, s147_29, s147_31, s147_32, s147_33, s147_36, s147_39, s147_40, s147_41, s147_44, s147_45, s147_46, s147_48, s147_50, s147_52, s147_54, s147_55, s147_56, s147_59, s147_62, s147_63, s147_64, s147_67, s147_68, s147_69, s147_71, s147_73, s147_75, s147_77, s147_78, s147_79, s147_82, s147_85, s147_86, s147_87, s147_90, s147_91, s147_92, s147_94, s147_96, s147_98, s147_100, s147_102, s147_103, s147_106, s147_145, s147_146, s147_148, s147_150, s147_152, s147_154, s147_155, s147_156, s147_159, s147_167, s147_168, s147_170, s147_172, s147_174, s147_176, s147_178, s147_180, s147_183, s147_220, s147_221, s147_224, i1, i2, i3, i4, i5, i6, i7, List.getElem?_cons_zero, List.getElem?_cons_succ, Option.bind_some, Option.toList_some, Option.toList_none, List.cons_append, List.nil_append, not_true_eq_false, if_false, if_true, a1]
end REFA
