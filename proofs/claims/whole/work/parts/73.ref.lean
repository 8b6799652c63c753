/-! the other object's parts, entries, operations -/
section REF5
variable {X : Option (List Int32)} {w0 w : ex_W} {A : Nat → Int32} {S : List Nat} {p : Nat} {fr to : Int32} {v : Int64} {M : List Nat} {b q ca : Nat} {ls : List Nat} {ns : NM}
theorem rs_140 (K : RS w0 A w S p fr to v M b q ca ls ns) : M.length ≤ 140 := by
  obtain ⟨_, _, ⟨ms, m1, m2, m3⟩, _⟩ := K
  have := m3.1
  omega
theorem rs_ml {i : Nat} (K : RS w0 A w S p fr to v M b q ca ls ns) (hi : i < M.length) : ex_al w 34 0 (nI i) = some (nI (M.getD i 0)) := by
  obtain ⟨_, _, ⟨ms, m1, m2, m3⟩, _⟩ := K
  have := m3.1
  rw [ex_al_i m1 (by omega) (by omega), m3.2 i hi]
theorem rs_as {i c : Nat} (K : RS w0 A w S p fr to v M b q ca ls ns) (hi : i < M.length) : ∃ w2, ex_as w 34 0 (nI i) (nI c) = some w2 ∧ RS w0 A w2 S p fr to v (M.set i c) b q ca ls ns := by
  obtain ⟨⟨k1, k2⟩, k3, ⟨ms, m1, m2, m3⟩, k5⟩ := K
  have h := m3.1
  have o : ∀ j, j ≠ 34 → (w.set 34 (.inr (0, ms.set i (nI c))))[j]? = w[j]? := fun j h => List.getElem?_set_ne (Ne.symm h)
  refine ⟨_, ex_as_i m1 (by omega) (by omega), ⟨⟨by rw [List.length_set]; exact k1, fun j hj => (o j (by omega)).trans (k2 j hj)⟩, ?_, ⟨ms.set i (nI c), ex_set_s m1, by rw [List.length_set]; exact m2, holds_set m3 hi⟩, rl_o k5 (fun j h1 h2 => o j (by omega))⟩⟩
  rw [List.length_set]
  exact ex_set_o (by decide) k3
theorem y_enterLoop {k : Nat} : ∀ (j q ca : Nat) (M : List Nat) (w : ex_W), q + j = k → k ≤ 3 → RS w0 A w S p fr to v M b q ca ls ns → M.length + j ≤ 140 → ∃ w2, ex_go X 149 13 [(0, .ref 32), (1, .int (nI k))] [] w = ex_go X 149 47 [(0, .ref 32)] [] w2 ∧ RS w0 A w2 S p fr to v (M ++ List.replicate j 0) b k (if j = 0 then ca else M.length + j - 1) ls ns := by
  intro j
  induction j with
  | zero =>
    intro q ca M w hq hk K hM
    have e : nI k ≤ nI q := nI_le (by omega) (by omega)
    have eq : q = k := by omega
    subst eq
    refine ⟨w, ?_, by rw [if_pos rfl]; exact (List.append_nil M).symm ▸ K⟩
    simp (disch := first | assumption | decide) only [s149_13, s149_14, s149_17, s149_18, rs_g K, List.getElem?_cons_zero, List.getElem?_cons_succ, Option.bind_some, Option.toList_some, Option.toList_none, List.cons_append, List.nil_append, not_true_eq_false, if_false, if_true, if_pos e]
  | succ j ih =>
    intro q ca M w hq hk K hM
    have e : ¬ nI k ≤ nI q := nI_ge (by omega) (by omega)
    have K1 := rs_set (p2 := p) (fr2 := fr) (to2 := to) (v2 := v) (b2 := b) (q2 := q + 1) (ca2 := ca) K
    have K2 := rs_set (p2 := p) (fr2 := fr) (to2 := to) (v2 := v) (b2 := b) (q2 := q + 1) (ca2 := M.length) K1
    have rc2 := rs_rc K2
    obtain ⟨w3, a3, K3⟩ := y_add (X := X) (x := 0) (c := 0) K2 (by omega) (by decide)
    obtain ⟨w4, a4, K4⟩ := ih (q + 1) M.length _ w3 (by omega) hk K3 (by rw [List.length_append, List.length_singleton]; omega)
    refine ⟨w4, ?_, ?_⟩
    · rw [s149_13]
      simp (disch := first | assumption | decide) only [s149_14, s149_17, s149_18, s149_21, s149_22, s149_23, s149_26, s149_27, s149_28, s149_31, s149_32, s149_33, s149_36, s149_39, s149_40, s149_41, s149_44, rs_g K, List.getElem?_cons_zero, List.getElem?_cons_succ, Option.bind_some, Option.toList_some, Option.toList_none, List.cons_append, List.nil_append, not_true_eq_false, if_false, if_true, if_neg e, nI_1, rs_p21 K, rs_g K1, rs_p22 K1, a3, a4]
    · rw [if_neg (by omega)]
      rw [List.append_assoc, show [0] ++ List.replicate j 0 = List.replicate (j + 1) 0 from rfl, List.length_append, List.length_singleton] at K4
      by_cases c : j = 0
      · subst c
        rw [if_pos rfl] at K4
        exact K4
      · rw [if_neg c, show M.length + 1 + j - 1 = M.length + (j + 1) - 1 by omega] at K4
        exact K4
theorem y_enter {D : List Nat} {I : List (List Nat)} {f k : Nat} (K : RS w0 A w S p (nI f) to v (M0 D I) b q D.length ls ns) (hk : k ≤ 3) (hq3 : q ≤ 3) (hM : (M0 D I).length + 3 ≤ 140) (hI : I.length < 2 ^ 20) : (q ≤ k → ∃ w2, ex_call X 149 [.ref 32, .int (nI k)] w = some (some (.int 1), w2) ∧ RS w0 A w2 S p (nI f) to v (nxD D I q k ++ ((nxI I q k).length + 1) :: (nxI I q k).flatten) b k (nxD D I q k).length ls ns) ∧ (¬ q ≤ k → ∃ w2, ex_call X 149 [.ref 32, .int (nI k)] w = some (some (.int 0), w2) ∧ RF w0 A w2 f) := by
  have rc := rs_rc K
  constructor
  · intro hq
    have e : nI q ≤ nI k := nI_le hq (by omega)
    obtain ⟨w1, a1, K1⟩ := y_enterLoop (X := X) (k := k) (k - q) q D.length (M0 D I) w (by omega) hk K (by omega)
    have K1 : RS w0 A w1 S p (nI f) to v (M0 (nxD D I q k) (nxI I q k)) b k (nxD D I q k).length ls ns := by
      rw [nx_M0 hq]
      by_cases c : k = q
      · have e0 : k - q = 0 := by omega
        rw [e0, if_pos rfl] at K1
        rw [e0]
        unfold nxD
        rw [if_pos c]
        exact K1
      · have e0 : ¬ k - q = 0 := by omega
        rw [if_neg e0] at K1
        unfold nxD
        rw [if_neg c, List.length_append, List.length_replicate, show (M0 D I).length + (k - q - 1) = (M0 D I).length + (k - q) - 1 by omega]
        exact K1
    have hlt : (nxI I q k).length < 2 ^ 20 := by
      unfold nxI
      split
      · exact hI
      · decide
    have ml := rs_ml (i := (nxD D I q k).length) K1 (by rw [M0_len]; omega)
    rw [show (M0 (nxD D I q k) (nxI I q k)).getD (nxD D I q k).length 0 = (nxI I q k).length from getD_mid.1] at ml
    obtain ⟨w2, a2, K2⟩ := rs_as (i := (nxD D I q k).length) (c := (nxI I q k).length + 1) K1 (by rw [M0_len]; omega)
    have es : (M0 (nxD D I q k) (nxI I q k)).set (nxD D I q k).length ((nxI I q k).length + 1) = nxD D I q k ++ ((nxI I q k).length + 1) :: (nxI I q k).flatten := by
      unfold M0
      rw [List.set_append_right _ _ (Nat.le_refl _), Nat.sub_self]
      rfl
    rw [es] at K2
    refine ⟨w2, ?_, K2⟩
    show ex_go X 149 0 [(0, .ref 32), (1, .int (nI k))] [] w = _
    simp (disch := first | assumption | decide) only [s149_0, s149_1, s149_2, s149_5, rs_g K, List.getElem?_cons_zero, List.getElem?_cons_succ, Option.bind_some, Option.toList_some, Option.toList_none, List.cons_append, List.nil_append, not_true_eq_false, if_false, if_true, if_pos e]
    rw [a1]
    simp (disch := first | assumption | decide) only [s149_47, s149_48, s149_51, s149_52, s149_55, s149_56, s149_57, s149_58, s149_59, s149_60, s149_61, rs_g K1, List.getElem?_cons_zero, List.getElem?_cons_succ, Option.bind_some, Option.toList_some, Option.toList_none, List.cons_append, List.nil_append, not_true_eq_false, if_false, if_true, ml, nI_1, a2]
  · intro hq
    have e : ¬ nI q ≤ nI k := nI_ge (by omega) (by omega)
    obtain ⟨w2, a2, F2⟩ := y_wrong (X := X) K
    refine ⟨w2, ?_, F2⟩
    show ex_go X 149 0 [(0, .ref 32), (1, .int (nI k))] [] w = _
    simp (disch := first | assumption | decide) only [s149_0, s149_1, s149_2, s149_5, s149_8, s149_9, s149_12, rs_g K, List.getElem?_cons_zero, List.getElem?_cons_succ, Option.bind_some, Option.toList_some, Option.toList_none, List.cons_append, List.nil_append, not_true_eq_false, if_false, if_true, if_neg e, a2]
theorem outR_and {o : ex_O} {r : PR} {k : Nat → Nat → PR} {o1 : ex_O} (h1 : outR w0 A S o1 r M b q ca ls ns) (hf : ∀ w2, o1 = some (some (.int 0), w2) → o = some (some (.int 0), w2)) (hs : ∀ w2 fr2 to2 v2 t xs, o1 = some (some (.int 1), w2) → RS w0 A w2 S t fr2 to2 v2 (M ++ xs) (b + xs.length) q ca ls ns → t ≤ S.length → b + xs.length ≤ 120 → outR w0 A S o (k t (b + xs.length)) (M ++ xs) (b + xs.length) q ca ls ns) : outR w0 A S o (andP r b k) M b q ca ls ns := by
  unfold andP
  cases r with
  | inl f =>
    refine ⟨fun t xs z => (by cases z), fun g z => ?_⟩
    cases z
    obtain ⟨w2, a1, a2⟩ := h1.2 f rfl
    exact ⟨w2, hf w2 a1, a2⟩
  | inr u =>
    obtain ⟨t, xs⟩ := u
    obtain ⟨w2, fr2, to2, v2, a1, a2, a3, a4⟩ := h1.1 t xs rfl
    have h2 := hs w2 fr2 to2 v2 t xs a1 a2 a3 a4
    show outR w0 A S o (match k t (b + xs.length) with | .inl f => .inl f | .inr (t2, ys) => .inr (t2, xs ++ ys)) M b q ca ls ns
    cases hk : k t (b + xs.length) with
    | inl f =>
      rw [hk] at h2
      refine ⟨fun t xs z => (by cases z), fun g z => ?_⟩
      cases z
      exact h2.2 f rfl
    | inr u2 =>
      obtain ⟨t2, ys⟩ := u2
      rw [hk] at h2
      refine ⟨fun t3 zs z => ?_, fun g z => (by cases z)⟩
      cases z
      obtain ⟨w3, fr3, to3, v3, b1, b2, b3, b4⟩ := h2.1 t2 ys rfl
      refine ⟨w3, fr3, to3, v3, b1, ?_, b3, by rw [List.length_append]; omega⟩
      rw [List.length_append, ← Nat.add_assoc, ← List.append_assoc]
      exact b2
/-- the same answer by another road -/
theorem outR_via {o o1 : ex_O} {r : PR} (h : outR w0 A S o1 r M b q ca ls ns) (e : ∀ x w2, (x = 0 ∨ x = 1) → o1 = some (some (.int x), w2) → o = some (some (.int x), w2)) : outR w0 A S o r M b q ca ls ns := by
  refine ⟨fun t xs z => ?_, fun f z => ?_⟩
  · obtain ⟨w2, fr2, to2, v2, a1, a2⟩ := h.1 t xs z
    exact ⟨w2, fr2, to2, v2, e 1 w2 (Or.inr rfl) a1, a2⟩
  · obtain ⟨w2, a1, a2⟩ := h.2 f z
    exact ⟨w2, e 0 w2 (Or.inl rfl) a1, a2⟩
theorem y_two {o : ex_O} (K : RS w0 A w S p fr to v M b q ca ls ns) (E : isSr w0 S) (hp : p ≤ S.length) (hM : M.length ≤ b) (hb : b ≤ 120) (h0 : ∀ w1, ex_call X 143 [.ref 32, .int 0, .int 255] w = some (some (.int 0), w1) → o = some (some (.int 0), w1)) (h1 : ∀ w1 w2 x, (x = 0 ∨ x = 1) → ex_call X 143 [.ref 32, .int 0, .int 255] w = some (some (.int 1), w1) → ex_rc w1 32 8 = true → ex_call X 143 [.ref 32, .int 0, .int 255] w1 = some (some (.int x), w2) → o = some (some (.int x), w2)) : outR w0 A S o (twoP S p b) M b q ca ls ns := by
  have rb := y_readByte (X := X) (lo := 0) (hi := 255) K E hp hM hb
  refine outR_and rb h0 ?_
  intro w2 fr2 to2 v2 t xs a K2 ht hb2
  have rb2 := y_readByte (X := X) (lo := 0) (hi := 255) K2 E ht (by rw [List.length_append]; omega) hb2
  exact outR_via rb2 (fun x w3 hx h => h1 w2 w3 x hx a (rs_rc K2) h)
theorem y_readEntry {D : List Nat} {I : List (List Nat)} {f kd : Nat} (hkd : 1 ≤ kd ∧ kd ≤ 4) (K : RS w0 A w S p (nI f) to v (M0 D I) b q D.length ls ns) (E : isSr w0 S) (hC : chOK S) (hp : p ≤ S.length) (hq3 : q ≤ 3) (hM : (M0 D I).length + 3 - q = b) (hb : b ≤ 120) (hI : I.length < 2 ^ 20) : (q = 0 ∧ b + 1 ≤ 120 → outR w0 A S (ex_call X 148 [.ref 32, .int (nI kd)] w) (entP S kd p (b + 1)) (nxD D I q 0 ++ ((nxI I q 0).length + 1) :: (nxI I q 0).flatten ++ [kd]) (b + 1) 0 (nxD D I q 0).length ls ns) ∧ (¬ (q = 0 ∧ b + 1 ≤ 120) → ∃ w2, ex_call X 148 [.ref 32, .int (nI kd)] w = some (some (.int 0), w2) ∧ RF w0 A w2 f) := by
  have rc := rs_rc K
  have n1 : ¬ (1 : Int32) = 0 := by decide
  have en := y_enter (X := X) (k := 0) K (by decide) hq3 (by omega) hI
  constructor
  · rintro ⟨hq, hR⟩
    subst hq
    obtain ⟨w1, a1, K1⟩ := en.1 (Nat.le_refl _)
    have a1 : ex_call X 149 [.ref 32, .int 0] w = some (some (.int 1), w1) := a1
    have rc1 := rs_rc K1
    obtain ⟨w2, a2, K2⟩ := (y_room (X := X) (n := 1) K1 hb (by decide)).1 hR
    have a2 : ex_call X 146 [.ref 32, .int 1] w1 = some (some (.int 1), w2) := a2
    have rc2 := rs_rc K2
    have ln : (nxD D I 0 0 ++ ((nxI I 0 0).length + 1) :: (nxI I 0 0).flatten).length = (M0 D I).length := by
      have := congrArg List.length (nx_M0 (D := D) (I := I) (q := 0) (k := 0) (Nat.le_refl _))
      rw [M0_len, List.length_append, List.length_replicate] at this
      rw [List.length_append, List.length_cons]
      omega
    obtain ⟨w3, a3, K3⟩ := y_add (X := X) (c := kd) K2 (by omega) (nI_255 (by omega))
    have rc3 := rs_rc K3
    have hM3 : (nxD D I 0 0 ++ ((nxI I 0 0).length + 1) :: (nxI I 0 0).flatten ++ [kd]).length ≤ b + 1 := by rw [List.length_append, List.length_singleton]; omega
    have hd : ex_call X 148 [.ref 32, .int (nI kd)] w = ex_go X 148 23 [(0, .ref 32), (1, .int (nI kd))] [] w3 := by
      show ex_go X 148 0 [(0, .ref 32), (1, .int (nI kd))] [] w = _
      simp (disch := first | assumption | decide) only [s148_0, s148_1, s148_2, s148_5, s148_8, s148_9, s148_10, s148_13, s148_16, s148_17, s148_18, s148_19, s148_20, a1, List.getElem?_cons_zero, List.getElem?_cons_succ, Option.bind_some, Option.toList_some, Option.toList_none, List.cons_append, List.nil_append, not_true_eq_false, if_false, if_true, if_neg n1, a2, if_pos n1, a3]
    rw [hd]
    unfold entP
    have c4 : kd = 1 ∨ kd = 2 ∨ kd = 3 ∨ kd = 4 := by omega
    rcases c4 with c | c | c | c <;> subst c
    · rw [if_pos rfl]
      have rw4 := y_readWide (X := X) (k := 4) (lo := -2147483648) (hi := 2147483647) K3 E hp hM3 hR (by decide)
      refine outR_via rw4 (fun x w4 hx h => ?_)
      have h : ex_call X 150 [.ref 32, .int 4, .long (-2147483648), .long 2147483647] w3 = some (some (.int x), w4) := h
      simp (disch := first | assumption | decide) only [s148_23, s148_24, s148_25, s148_28, s148_29, s148_30, s148_33, s148_36, s148_39, if_neg, h, List.getElem?_cons_zero, List.getElem?_cons_succ, Option.bind_some, Option.toList_some, Option.toList_none, List.cons_append, List.nil_append, not_true_eq_false, if_false, if_true]
    · rw [if_neg (by decide), if_pos rfl]
      have rb := y_readBytes (X := X) (cn := 1) (nm := 1) (Or.inr rfl) (Or.inr ⟨rfl, rfl⟩) K3 E hC hp hM3 hR
      rw [if_neg (by decide)] at rb
      refine outR_via rb (fun x w4 hx h => ?_)
      have h : ex_call X 151 [.ref 32, .int 1, .int 1] w3 = some (some (.int x), w4) := h
      simp (disch := first | assumption | decide) only [s148_23, s148_24, s148_25, s148_28, s148_29, s148_30, s148_33, s148_36, s148_39, s148_40, s148_41, s148_42, s148_45, s148_46, s148_47, s148_48, s148_51, if_neg, if_pos, h, List.getElem?_cons_zero, List.getElem?_cons_succ, Option.bind_some, Option.toList_some, Option.toList_none, List.cons_append, List.nil_append, not_true_eq_false, if_false, if_true]
    · rw [if_neg (by decide), if_neg (by decide), if_pos rfl]
      refine y_two (X := X) K3 E hp hM3 hR ?_ ?_
      · intro w4 h
        simp (disch := first | assumption | decide) only [s148_23, s148_24, s148_25, s148_28, s148_29, s148_30, s148_33, s148_36, s148_39, s148_40, s148_41, s148_42, s148_45, s148_46, s148_47, s148_48, s148_51, s148_52, s148_53, s148_54, s148_57, s148_58, s148_59, s148_62, s148_65, s148_68, s148_69, s148_70, s148_73, s148_76, s148_79, s148_80, s148_83, s148_84, if_neg, if_pos, h, List.getElem?_cons_zero, List.getElem?_cons_succ, Option.bind_some, Option.toList_some, Option.toList_none, List.cons_append, List.nil_append, not_true_eq_false, if_false, if_true]
      · intro w4 w5 x hx h hrc h5
        rcases hx with z | z <;> subst z
        · simp (disch := first | assumption | decide) only [s148_23, s148_24, s148_25, s148_28, s148_29, s148_30, s148_33, s148_36, s148_39, s148_40, s148_41, s148_42, s148_45, s148_46, s148_47, s148_48, s148_51, s148_52, s148_53, s148_54, s148_57, s148_58, s148_59, s148_62, s148_65, s148_68, s148_69, s148_70, s148_73, s148_76, s148_79, s148_80, s148_83, s148_84, if_neg, if_pos, h, List.getElem?_cons_zero, List.getElem?_cons_succ, Option.bind_some, Option.toList_some, Option.toList_none, List.cons_append, List.nil_append, not_true_eq_false, if_false, if_true, if_neg n1, h5]
        · simp (disch := first | assumption | decide) only [s148_23, s148_24, s148_25, s148_28, s148_29, s148_30, s148_33, s148_36, s148_39, s148_40, s148_41, s148_42, s148_45, s148_46, s148_47, s148_48, s148_51, s148_52, s148_53, s148_54, s148_57, s148_58, s148_59, s148_62, s148_65, s148_68, s148_69, s148_70, s148_73, s148_76, s148_79, s148_80, s148_83, s148_84, if_neg, if_pos, h, List.getElem?_cons_zero, List.getElem?_cons_succ, Option.bind_some, Option.toList_some, Option.toList_none, List.cons_append, List.nil_append, not_true_eq_false, if_false, if_true, if_neg n1, h5]
    · rw [if_neg (by decide), if_neg (by decide), if_neg (by decide)]
      have rw4 := y_readWide (X := X) (k := 8) (lo := -9223372036854775808) (hi := 9223372036854775807) K3 E hp hM3 hR (by decide)
      refine outR_via rw4 (fun x w4 hx h => ?_)
      have h : ex_call X 150 [.ref 32, .int 8, .long (-9223372036854775808), .long 9223372036854775807] w3 = some (some (.int x), w4) := h
      simp (disch := first | assumption | decide) only [s148_23, s148_24, s148_25, s148_28, s148_29, s148_30, s148_33, s148_36, s148_39, s148_40, s148_41, s148_42, s148_45, s148_46, s148_47, s148_48, s148_51, s148_52, s148_53, s148_54, s148_57, s148_58, s148_59, s148_62, s148_65, s148_68, s148_69, s148_70, s148_73, s148_76, s148_79, s148_80, s148_83, s148_84, s148_85, s148_86, s148_88, s148_91, s148_94, s148_97, if_neg, if_pos, h, List.getElem?_cons_zero, List.getElem?_cons_succ, Option.bind_some, Option.toList_some, Option.toList_none, List.cons_append, List.nil_append, not_true_eq_false, if_false, if_true]
  · intro h
    by_cases hq : q = 0
    · obtain ⟨w1, a1, K1⟩ := en.1 (by omega)
      have a1 : ex_call X 149 [.ref 32, .int 0] w = some (some (.int 1), w1) := a1
      have rc1 := rs_rc K1
      obtain ⟨w2, a2, F2⟩ := (y_room (X := X) (n := 1) K1 hb (by decide)).2 (fun z => h ⟨hq, z⟩)
      have a2 : ex_call X 146 [.ref 32, .int 1] w1 = some (some (.int 0), w2) := a2
      refine ⟨w2, ?_, F2⟩
      show ex_go X 148 0 [(0, .ref 32), (1, .int (nI kd))] [] w = _
      simp (disch := first | assumption | decide) only [s148_0, s148_1, s148_2, s148_5, s148_8, s148_9, s148_10, s148_13, s148_16, s148_17, a1, List.getElem?_cons_zero, List.getElem?_cons_succ, Option.bind_some, Option.toList_some, Option.toList_none, List.cons_append, List.nil_append, not_true_eq_false, if_false, if_true, if_neg n1, a2]
    · obtain ⟨w1, a1, F1⟩ := en.2 (by omega)
      have a1 : ex_call X 149 [.ref 32, .int 0] w = some (some (.int 0), w1) := a1
      refine ⟨w1, ?_, F1⟩
      show ex_go X 148 0 [(0, .ref 32), (1, .int (nI kd))] [] w = _
      simp (disch := first | assumption | decide) only [s148_0, s148_1, s148_2, s148_5, s148_8, s148_9, s148_10, s148_13, s148_16, s148_17, a1, List.getElem?_cons_zero, List.getElem?_cons_succ, Option.bind_some, Option.toList_some, Option.toList_none, List.cons_append, List.nil_append, not_true_eq_false, if_false, if_true]
end REF5
