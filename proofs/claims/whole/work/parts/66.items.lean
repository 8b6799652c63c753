/-! the class reads items -/
def bodP (S : List Nat) (p b0 : Nat) : PR := if wd S p = txN 9 then (match rHex S 0 (wT S p) b0 with
    | none => .inl (wF S (wT S p))
    | some xs => if wd S (wT S (wT S p)) = txN 8 then .inr (wT S (wT S (wT S p)), xs) else .inl (wF S (wT S (wT S p)))) else codP S (S.length + 1) p b0 [] [] []
def codeP (S : List Nat) (p b : Nat) : PR := if wd S p = txN 10 ∧ b + 1 ≤ 120 then (match bodP S (wT S p) (b + 1) with
    | .inl f => .inl f
    | .inr (t, Y) => .inr (t, Y.length :: Y)) else .inl (wF S p)
theorem rHex_len {S : List Nat} {cn p b : Nat} {xs : List Nat} (hcn : cn = 0 ∨ cn = 1) (h : rHex S cn p b = some xs) : b + xs.length ≤ 120 := by
  unfold rHex at h
  split at h
  next c =>
    cases h
    rw [List.length_append, hexBs_len]
    rcases hcn with z | z <;> subst z
    · rw [if_pos rfl, List.length_nil]; omega
    · rw [if_neg (by decide), List.length_singleton]; omega
  next => cases h
section ITEM
variable {X : Option (List Int32)} {w0 w : ex_W} {L R : Nat} {S : List Nat} {p : Nat} {v : Int64} {M : List Nat} {pt cc br ic hl hr cs : Int32} {ls : List Nat} {ns : NM}
theorem c_openCode {b : Nat} (K : isMk w0 w L S p v M pt cc (nI b) ic hl hr cs ls ns) (E : isEn w0 L S) (hp : p ≤ S.length) (hM : M.length ≤ b) (hb : b ≤ 120) : (wd S p = txN 10 ∧ b + 1 ≤ 120 → ∃ w2 v2, ex_call X 61 [.ref 5] w = some (some (.int 1), w2) ∧ isMk w0 w2 L S (wT S p) v2 (M ++ [0]) pt cc (nI (b + 1)) 1 0 0 (nI M.length) [] []) ∧ (¬ (wd S p = txN 10 ∧ b + 1 ≤ 120) → ex_call X 61 [.ref 5] w = some (some (.int 0), w)) := by
  have r5 := mk_r5 K
  have r8 := mk_r8 K
  have n1 : ¬ (1 : Int32) = 0 := by decide
  have is : ex_call X 89 [.ref 8, .ref 1011] w = _ := c_is (X := X) (j := 10) (by decide) K E hp
  constructor
  · rintro ⟨c1, c2⟩
    rw [if_pos c1] at is
    obtain ⟨w1, a1, K1⟩ := c_bring1 (X := X) (c := 0) (by decide) K hM c2
    have a1 : ex_call X 50 [.ref 5, .long 0, .int 1] w = some (some (.int 1), w1) := a1
    have r81 := mk_r8 K1
    obtain ⟨w2, a2, K2⟩ := c_stepM (X := X) K1 E hp
    have sb : nI (M ++ [0]).length - 1 = nI M.length := by
      rw [List.length_append, List.length_singleton]
      exact nI_pred _
    have K3 := mk_set (pt2 := pt) (cc2 := cc) (br2 := nI (b + 1)) (ic2 := ic) (hl2 := hl) (hr2 := hr) (cs2 := nI M.length) K2
    have r103 := mk_r10 K3
    obtain ⟨w4, a4, K4⟩ := c_forget (X := X) K3
    have K5 := mk_set (pt2 := pt) (cc2 := cc) (br2 := nI (b + 1)) (ic2 := 1) (hl2 := hl) (hr2 := hr) (cs2 := nI M.length) K4
    have K6 := mk_set (pt2 := pt) (cc2 := cc) (br2 := nI (b + 1)) (ic2 := 1) (hl2 := 0) (hr2 := hr) (cs2 := nI M.length) K5
    have K7 := mk_set (pt2 := pt) (cc2 := cc) (br2 := nI (b + 1)) (ic2 := 1) (hl2 := 0) (hr2 := 0) (cs2 := nI M.length) K6
    refine ⟨_, _, ?_, K7⟩
    show ex_go X 61 0 [(0, .ref 5)] [] w = _
    simp (disch := first | assumption | decide) only [s61_0, s61_1, s61_4, s61_6, s61_9, s61_12, s61_13, s61_14, s61_15, s61_18, s61_21, s61_22, s61_23, s61_24, s61_27, s61_30, s61_31, s61_32, s61_35, s61_38, s61_39, s61_40, s61_43, s61_44, s61_47, s61_50, s61_51, s61_52, s61_55, s61_56, s61_57, s61_60, s61_61, s61_62, s61_65, s61_66, mk_g K, List.getElem?_cons_zero, List.getElem?_cons_succ, Option.bind_some, Option.toList_some, Option.toList_none, List.cons_append, List.nil_append, not_true_eq_false, if_false, if_true, is, if_neg n1, a1, if_pos n1, mk_g K1, a2, mk_g K2, mk_n K2, sb, mk_p9 K2, mk_g K3, a4, mk_p6 K4, mk_p7 K5, mk_p8 K6]
  · intro h
    by_cases c1 : wd S p = txN 10
    · rw [if_pos c1] at is
      have bn : ex_call X 50 [.ref 5, .long 0, .int 1] w = some (some (.int 0), w) := c_bringNo (X := X) (k := 1) K hb (by decide) (fun z => h ⟨c1, z⟩)
      show ex_go X 61 0 [(0, .ref 5)] [] w = _
      simp (disch := first | assumption | decide) only [s61_0, s61_1, s61_4, s61_6, s61_9, s61_12, s61_13, s61_14, s61_15, s61_18, s61_21, s61_22, s61_23, s61_24, s61_27, s61_30, s61_31, s61_32, s61_35, s61_38, s61_39, s61_40, s61_43, s61_44, s61_47, s61_50, s61_51, s61_52, s61_55, s61_56, s61_57, s61_60, s61_61, s61_62, s61_65, s61_66, mk_g K, List.getElem?_cons_zero, List.getElem?_cons_succ, Option.bind_some, Option.toList_some, Option.toList_none, List.cons_append, List.nil_append, not_true_eq_false, if_false, if_true, is, if_neg n1, bn]
    · rw [if_neg c1] at is
      show ex_go X 61 0 [(0, .ref 5)] [] w = _
      simp (disch := first | assumption | decide) only [s61_0, s61_1, s61_4, s61_6, s61_9, s61_12, s61_13, s61_14, s61_15, s61_18, s61_21, s61_22, s61_23, s61_24, s61_27, s61_30, s61_31, s61_32, s61_35, s61_38, s61_39, s61_40, s61_43, s61_44, s61_47, s61_50, s61_51, s61_52, s61_55, s61_56, s61_57, s61_60, s61_61, s61_62, s61_65, s61_66, mk_g K, List.getElem?_cons_zero, List.getElem?_cons_succ, Option.bind_some, Option.toList_some, Option.toList_none, List.cons_append, List.nil_append, not_true_eq_false, if_false, if_true, is]
/-- the body of a code -/
theorem c_body {J : Nat → Nat → Prop} {b0 c i : Nat} {pre : List Nat} (T : isTR w0 R L S) (E : isEn w0 L S) (hJ : lnJ S J) (hpre : pre.length = c + 1) (hb0 : pre.length ≤ b0) (hb : b0 ≤ 120) (hi : i ≤ p) (hp : p ≤ S.length) (hE : wE S p) (K : isMk w0 w L S p v pre pt cc (nI b0) 1 0 0 (nI c) [] []) : (∀ t Y2, bodP S p b0 = .inr (t, Y2) → ∃ i2 v2 hl2 hr2 ls2 ns2 w2, ex_go X 41 20 [(0, .ref 5), (1, .ref R), (2, .int 1), (3, .int (nI i))] [] w = ex_go X 41 20 [(0, .ref 5), (1, .ref R), (2, .int 1), (3, .int (nI i2))] [] w2 ∧ i2 ≤ t ∧ t ≤ S.length ∧ p < t ∧ isMk w0 w2 L S t v2 ((pre ++ Y2).set c Y2.length) pt cc (nI (b0 + Y2.length)) 0 hl2 hr2 (nI c) ls2 ns2 ∧ b0 + Y2.length ≤ 120) ∧ (∀ f, bodP S p b0 = .inl f → ∃ w2, ex_go X 41 20 [(0, .ref 5), (1, .ref R), (2, .int 1), (3, .int (nI i))] [] w = some (some (.int (nI f)), w2) ∧ isMf w0 w2 L S f) := by
  have n1 : ¬ (1 : Int32) = 0 := by decide
  have wb := w_b hp
  unfold bodP
  by_cases c9 : wd S p = txN 9
  · rw [if_pos c9]
    have hw : wF S p < wT S p := wd_ne hp (by rw [c9]; decide +kernel)
    have wb2 := w_b wb.2.2.1
    have r5 := mk_r5 K
    have r8 := mk_r8 K
    have i8 : ex_call X 89 [.ref 8, .ref 1009] w = _ := c_is (X := X) (j := 8) (by decide) K E hp
    have i9 : ex_call X 89 [.ref 8, .ref 1010] w = _ := c_is (X := X) (j := 9) (by decide) K E hp
    rw [if_neg (by rw [c9]; decide +kernel)] at i8
    rw [if_pos c9] at i9
    obtain ⟨w1, a1, K1⟩ := c_stepM (X := X) K E hp
    have K2 := mk_set (pt2 := pt) (cc2 := cc) (br2 := nI b0) (ic2 := 1) (hl2 := 0) (hr2 := 1) (cs2 := nI c) K1
    have r52 := mk_r5 K2
    have rb := c_readBytes (X := X) (cn := 0) (Or.inl rfl) K2 E wb.2.2.1 hb0 hb
    have hd : ∀ r3 w3, (r3 = 0 ∨ r3 = 1) → ex_call X 48 [.ref 5, .int 0] (w1.set 5 (mk pt cc (nI b0) 1 0 1 (nI c))) = some (some (.int r3), w3) → ex_call X 44 [.ref 5] w = some (some (.int r3), w3) := by
      intro r3 w3 hr3 h
      have rr : ex_call X 47 [.ref 5] w = some (some (.int r3), w3) := by
        show ex_go X 47 0 [(0, .ref 5)] [] w = _
        simp (disch := first | assumption | decide) only [s47_0, s47_1, s47_4, s47_7, s47_8, s47_9, s47_10, s47_13, s47_16, s47_17, s47_18, s47_21, s47_22, s47_23, s47_26, mk_g K, List.getElem?_cons_zero, List.getElem?_cons_succ, Option.bind_some, Option.toList_some, Option.toList_none, List.cons_append, List.nil_append, not_true_eq_false, if_false, if_true, a1, mk_p8 K1, h]
      show ex_go X 44 0 [(0, .ref 5)] [] w = _
      simp (disch := first | assumption | decide) only [s44_0, s44_1, s44_4, s44_6, s44_9, s44_12, s44_13, s44_16, s44_17, s44_18, s44_21, s44_24, s44_25, s44_26, s44_27, s44_30, s44_32, s44_35, s44_38, s44_39, s44_42, mk_g K, List.getElem?_cons_zero, List.getElem?_cons_succ, Option.bind_some, Option.toList_some, Option.toList_none, List.cons_append, List.nil_append, not_true_eq_false, if_false, if_true, i8, i9, if_neg n1, rr]
    cases hh : rHex S 0 (wT S p) b0 with
    | none =>
      obtain ⟨w3, a3, F3⟩ := rb.2 hh
      refine ⟨fun t Y3 z => (by cases z), fun f z => ?_⟩
      cases z
      exact ⟨w3, by rw [c_turnC (X := X) T E K hp hi hw (hd 0 w3 (Or.inl rfl) a3)]; exact c_stop T F3, F3⟩
    | some xs =>
      obtain ⟨w3, a3, K3⟩ := rb.1 xs hh
      have xl := rHex_len (Or.inl rfl) hh
      have wb3 := w_b wb2.2.2.1
      have tn := c_turnC (X := X) T E K hp hi hw (hd 1 w3 (Or.inr rfl) a3)
      have r53 := mk_r5 K3
      have r83 := mk_r8 K3
      have j8 : ex_call X 89 [.ref 8, .ref 1009] w3 = _ := c_is (X := X) (j := 8) (by decide) K3 E wb2.2.2.1
      rw [tn]
      show (∀ t Y2, (if wd S (wT S (wT S p)) = txN 8 then .inr (wT S (wT S (wT S p)), xs) else .inl (wF S (wT S (wT S p)))) = Sum.inr (t, Y2) → _) ∧ (∀ f, (if wd S (wT S (wT S p)) = txN 8 then .inr (wT S (wT S (wT S p)), xs) else .inl (wF S (wT S (wT S p)))) = Sum.inl f → _)
      by_cases c8 : wd S (wT S (wT S p)) = txN 8
      · have hw2 : wF S (wT S (wT S p)) < wT S (wT S (wT S p)) := wd_ne wb2.2.2.1 (by rw [c8]; decide +kernel)
        rw [if_pos c8] at j8
        rw [if_pos c8]
        have cl := c_closeCode (X := X) (y := xs.length) K3 E wb2.2.2.1 (by rw [List.length_append]; omega) (fun n hn => (by cases hn))
        obtain ⟨w4, a4, K4⟩ := cl.1 (pre ++ xs) rfl
        have cc0 : ex_call X 44 [.ref 5] w3 = some (some (.int 1), w4) := by
          show ex_go X 44 0 [(0, .ref 5)] [] w3 = _
          simp (disch := first | assumption | decide) only [s44_0, s44_1, s44_4, s44_6, s44_9, s44_12, s44_13, s44_16, mk_g K3, List.getElem?_cons_zero, List.getElem?_cons_succ, Option.bind_some, Option.toList_some, Option.toList_none, List.cons_append, List.nil_append, not_true_eq_false, if_false, if_true, j8, if_neg n1, a4]
        refine ⟨fun t Y3 z => ?_, fun f z => (by cases z)⟩
        cases z
        exact ⟨i + 1 + 1, _, _, _, _, _, w4, c_turnC T E K3 wb2.2.2.1 (by omega) hw2 cc0, by omega, wb3.2.2.1, by omega, K4, xl⟩
      · rw [if_neg c8] at j8
        rw [if_neg c8]
        refine ⟨fun t Y3 z => (by cases z), fun f z => ?_⟩
        cases z
        by_cases hw2 : wF S (wT S (wT S p)) < wT S (wT S (wT S p))
        · have cc0 : ex_call X 44 [.ref 5] w3 = some (some (.int 0), w3) := by
            show ex_go X 44 0 [(0, .ref 5)] [] w3 = _
            simp (disch := first | assumption | decide) only [s44_0, s44_1, s44_4, s44_6, s44_9, s44_12, s44_13, s44_16, s44_17, s44_18, s44_21, s44_24, s44_25, mk_g K3, List.getElem?_cons_zero, List.getElem?_cons_succ, Option.bind_some, Option.toList_some, Option.toList_none, List.cons_append, List.nil_append, not_true_eq_false, if_false, if_true, j8, if_neg n1]
          have F := mf_of K3 wb2.2.2.1
          exact ⟨w3, by rw [c_turnC T E K3 wb2.2.2.1 (by omega) hw2 cc0]; exact c_stop T F, F⟩
        · exact ⟨w3, c_endC T E K3 wb2.2.2.1 hw2, mf_of K3 wb2.2.2.1⟩
  · rw [if_neg c9]
    have K0 : isMk w0 w L S p v (pre ++ []) pt cc (nI (b0 + ([] : List Nat).length)) 1 0 0 (nI c) [] (([] : NM).map (sh (c + 1))) := by
      rw [List.append_nil]
      exact K
    have lp := c_codeLoop (X := X) T E hJ hpre hb0 (S.length + 1) i p v [] [] [] 0 w (by omega) hi hp K0 (Or.inr c9) (Or.inl rfl) hb (Nat.le_refl _) (fun n hn => (by cases hn)) hE (hJ.1 p)
    refine ⟨fun t Y2 z => ?_, lp.2⟩
    obtain ⟨i2, v2, hl2, ls2, ns2, w2, h⟩ := lp.1 t Y2 z
    exact ⟨i2, v2, hl2, 0, ls2, ns2, w2, h⟩
end ITEM
