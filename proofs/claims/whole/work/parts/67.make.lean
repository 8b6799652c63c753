/-! the class makes a block of a text -/
def M0 (D : List Nat) (I : List (List Nat)) : List Nat := D ++ I.length :: I.flatten
theorem M0_len {D : List Nat} {I : List (List Nat)} : (M0 D I).length = D.length + 1 + I.flatten.length := by
  unfold M0
  rw [List.length_append, List.length_cons]
  omega
def nxD (D : List Nat) (I : List (List Nat)) (q k : Nat) : List Nat := if k = q then D else M0 D I ++ List.replicate (k - q - 1) 0
def nxI (I : List (List Nat)) (q k : Nat) : List (List Nat) := if k = q then I else []
theorem nx_M0 {D : List Nat} {I : List (List Nat)} {q k : Nat} (h : q ≤ k) : M0 (nxD D I q k) (nxI I q k) = M0 D I ++ List.replicate (k - q) 0 := by
  unfold nxD nxI
  by_cases c : k = q
  · rw [if_pos c, if_pos c, c, Nat.sub_self]
    exact (List.append_nil _).symm
  · rw [if_neg c, if_neg c]
    have e : k - q = (k - q - 1) + 1 := by omega
    rw [e]
    show M0 D I ++ List.replicate (k - q - 1 + 1 - 1) 0 ++ 0 :: [] = _
    rw [Nat.add_sub_cancel, List.append_assoc, ← List.replicate_succ']
/-- the item behind place p: its part, where it ends, its bytes -/
def itemP (S : List Nat) (q p b : Nat) : Nat ⊕ (Nat × Nat × List Nat) := if ¬ kwN S p = 0 then (if q = 0 ∧ b + 1 ≤ 120 then (match entP S (kwN S p) (wT S p) (b + 1) with
    | .inl f => .inl f
    | .inr (t, xs) => .inr (0, t, kwN S p :: xs)) else .inl (wF S p)) else if pwN S p = 0 ∨ pwN S p < q then .inl (wF S p) else
    (match (if pwN S p = 1 then twoP S (wT S p) b else if pwN S p = 2 then andP (twoP S (wT S p) b) b (codeP S) else andP (bytP S (wT S p) b) b (fun t b2 => one S t (rHex S 1 t b2))) with
    | .inl f => .inl f
    | .inr (t, xs) => .inr (pwN S p, t, xs))
def topP (S : List Nat) : Nat → Nat → List Nat → Nat → List (List Nat) → Nat ⊕ List Nat
  | 0, _, _, _, _ => .inl 0
  | k + 1, p, D, q, I => if wF S p < wT S p then (match itemP S q p ((M0 D I).length + 3 - q) with
      | .inl f => .inl f
      | .inr (j, t, xs) => topP S k t (nxD D I q j) j (nxI I q j ++ [xs])) else .inr (M0 D I ++ List.replicate (3 - q) 0)
/-- the block that a text makes, or where the text is faulty -/
def parP (S : List Nat) : Nat ⊕ List Nat := if wd S 0 = txN 0 then (match rNum S 0 255 1 (wT S 0) 5 with
    | none => .inl (wF S (wT S 0))
    | some xs => topP S (S.length + 1) (wT S (wT S 0)) (77 :: xs) 0 []) else .inl (wF S 0)
section MAKE
variable {X : Option (List Int32)} {w0 w : ex_W} {L R : Nat} {S : List Nat} {p : Nat} {v : Int64} {M : List Nat} {pt cc br ic hl hr cs : Int32} {ls : List Nat} {ns : NM}
/-- on to the item's part, and its number one higher -/
theorem c_enter {D : List Nat} {I : List (List Nat)} {q k : Nat} {x1 : Int32} (K : isMk w0 w L S p v (M0 D I) (nI q) (nI D.length) br ic hl hr cs ls ns) (hq : q ≤ k) (hk : k ≤ 3) (h120 : (M0 D I).length + 3 - q ≤ 120) (hI : I.length < 2 ^ 20) : ∃ w2, ex_go X 55 29 [(0, .ref 5), (1, .int x1), (2, .int (nI k))] [] w = ex_go X 55 58 [(0, .ref 5), (1, .int x1), (2, .int (nI k))] [] w2 ∧ isMk w0 w2 L S p v (nxD D I q k ++ ((nxI I q k).length + 1) :: (nxI I q k).flatten) (nI k) (nI (nxD D I q k).length) br ic hl hr cs ls ns := by
  have r5 := mk_r5 K
  obtain ⟨w1, a1, K1⟩ := c_goToPart (X := X) (q := q + 1) (np := k) (nI_1 q) hk (by omega) K (by omega)
  have ek : k + 1 - (q + 1) = k - q := by omega
  rw [ek] at K1
  have K1 : isMk w0 w1 L S p v (M0 (nxD D I q k) (nxI I q k)) (nI k) (nI (nxD D I q k).length) br ic hl hr cs ls ns := by
    rw [nx_M0 hq]
    by_cases c : k = q
    · have e0 : k - q = 0 := by omega
      rw [e0, if_pos rfl, if_pos rfl, ← c] at K1
      rw [e0]
      unfold nxD
      rw [if_pos c]
      exact K1
    · have e0 : ¬ k - q = 0 := by omega
      rw [if_neg e0, if_neg e0] at K1
      unfold nxD
      rw [if_neg c, List.length_append, List.length_replicate, show (M0 D I).length + (k - q - 1) = (M0 D I).length + (k - q) - 1 by omega]
      exact K1
  have hlt : (nxI I q k).length < 2 ^ 20 := by
    unfold nxI
    split
    · exact hI
    · decide
  have h120b := mk_120 K1
  rw [M0_len] at h120b
  have ce := mk_cell (X := X) (i := (nxD D I q k).length) K1 (by omega)
  rw [show (M0 (nxD D I q k) (nxI I q k)).getD (nxD D I q k).length 0 = (nxI I q k).length from getD_mid.1] at ce
  have r61 := mk_r6 K1
  obtain ⟨w2, a2, K2⟩ := mk_change (X := X) (i := (nxD D I q k).length) (c := (nxI I q k).length + 1) K1 (by rw [M0_len]; omega)
  have es : (M0 (nxD D I q k) (nxI I q k)).set (nxD D I q k).length ((nxI I q k).length + 1) = nxD D I q k ++ ((nxI I q k).length + 1) :: (nxI I q k).flatten := by
    unfold M0
    rw [List.set_append_right _ _ (Nat.le_refl _), Nat.sub_self]
    rfl
  rw [es] at K2
  refine ⟨w2, ?_, K2⟩
  simp (disch := first | assumption | decide) only [s55_29, s55_30, s55_31, s55_34, s55_35, s55_38, s55_39, s55_42, s55_43, s55_46, s55_47, s55_50, s55_53, s55_54, s55_55, a1, List.getElem?_cons_zero, List.getElem?_cons_succ, Option.bind_some, Option.toList_some, Option.toList_none, List.cons_append, List.nil_append, not_true_eq_false, if_false, if_true, mk_g K1, ce, nI_1, a2]
theorem kw_le : kwN S p ≤ 4 := by
  unfold kwN
  split
  · decide
  · split
    · decide
    · split
      · decide
      · split <;> decide
theorem pw_le : pwN S p ≤ 3 := by
  unfold pwN
  split
  · decide
  · split
    · decide
    · split <;> decide
theorem kw_lt (hp : p ≤ S.length) (h : ¬ (kwN S p = 0 ∧ pwN S p = 0)) : wF S p < wT S p := by
  apply wd_ne hp
  intro e
  apply h
  unfold kwN pwN
  rw [e]
  exact ⟨by rw [if_neg (by decide +kernel), if_neg (by decide +kernel), if_neg (by decide +kernel), if_neg (by decide +kernel)], by rw [if_neg (by decide +kernel), if_neg (by decide +kernel), if_neg (by decide +kernel)]⟩
/-- where the item's part is found -/
theorem c_partFound (K : isMk w0 w L S p v M pt cc br ic hl hr cs ls ns) (E : isEn w0 L S) (hp : p ≤ S.length) : ex_call X 55 [.ref 5] w = ex_go X 55 19 [(0, .ref 5), (1, .int (if kwN S p = 0 then -1 else nI (kwN S p))), (2, .int (if kwN S p = 0 then (if pwN S p = 0 then -1 else nI (pwN S p)) else 0))] [] w := by
  have r5 := mk_r5 K
  have kk := c_kindOfWord (X := X) K E hp
  have pp := c_partOfWord (X := X) K E hp
  have k4 := kw_le (S := S) (p := p)
  show ex_go X 55 0 [(0, .ref 5)] [] w = _
  by_cases c : kwN S p = 0
  · rw [if_pos c] at kk
    rw [if_pos c, if_pos c]
    simp (disch := first | assumption | decide) only [s55_0, s55_1, s55_4, s55_5, s55_6, s55_7, s55_10, s55_11, s55_14, s55_15, s55_18, kk, List.getElem?_cons_zero, List.getElem?_cons_succ, Option.bind_some, Option.toList_some, Option.toList_none, List.cons_append, List.nil_append, not_true_eq_false, if_false, if_true, pp]
  · rw [if_neg c] at kk
    rw [if_neg c, if_neg c]
    have n1 : ¬ nI (kwN S p) = -1 := nI_n1 (by omega)
    simp (disch := first | assumption | decide) only [s55_0, s55_1, s55_4, s55_5, s55_6, s55_7, s55_10, s55_11, s55_14, s55_15, s55_18, kk, List.getElem?_cons_zero, List.getElem?_cons_succ, Option.bind_some, Option.toList_some, Option.toList_none, List.cons_append, List.nil_append, not_true_eq_false, if_false, if_true, if_neg n1]
def itOut (X : Option (List Int32)) (w0 : ex_W) (L R : Nat) (S : List Nat) (o : ex_O) (r : Nat ⊕ (Nat × Nat × List Nat)) (p b : Nat) (D : List Nat) (I : List (List Nat)) (q : Nat) : Prop := (∀ k t xs, r = .inr (k, t, xs) → ∃ i2 v2 hl2 hr2 cs2 ls2 ns2 w2, o = ex_go X 41 20 [(0, .ref 5), (1, .ref R), (2, .int 1), (3, .int (nI i2))] [] w2 ∧ i2 ≤ t ∧ t ≤ S.length ∧ p < t ∧ q ≤ k ∧ k ≤ 3 ∧ isMk w0 w2 L S t v2 (nxD D I q k ++ ((nxI I q k).length + 1) :: (nxI I q k).flatten ++ xs) (nI k) (nI (nxD D I q k).length) (nI (b + xs.length)) 0 hl2 hr2 cs2 ls2 ns2 ∧ b + xs.length ≤ 120) ∧ (∀ f, r = .inl f → ∃ w2, o = some (some (.int (nI f)), w2) ∧ isMf w0 w2 L S f)
theorem c_item2 {J : Nat → Nat → Prop} {D : List Nat} {I : List (List Nat)} {q b i : Nat} (T : isTR w0 R L S) (E : isEn w0 L S) (hJ : lnJ S J) (K : isMk w0 w L S p v (M0 D I) (nI q) (nI D.length) (nI b) 0 hl hr cs ls ns) (hp : p ≤ S.length) (hi : i ≤ p) (hq : q ≤ 3) (hb : b = (M0 D I).length + 3 - q) (h120 : b ≤ 120) (hI : I.length < 2 ^ 20) (hw : wF S p < wT S p) : itOut X w0 L R S (ex_go X 41 20 [(0, .ref 5), (1, .ref R), (2, .int 1), (3, .int (nI i))] [] w) (itemP S q p b) p b D I q := by
  have n1 : ¬ (1 : Int32) = 0 := by decide
  have wb := w_b hp
  have k4 := kw_le (S := S) (p := p)
  have p3 := pw_le (S := S) (p := p)
  have pf := c_partFound (X := X) K E hp
  -- a call that fails
  have bad : ∀ f w2, ex_call X 55 [.ref 5] w = some (some (.int 0), w2) → isMf w0 w2 L S f → ∃ w2, ex_go X 41 20 [(0, .ref 5), (1, .ref R), (2, .int 1), (3, .int (nI i))] [] w = some (some (.int (nI f)), w2) ∧ isMf w0 w2 L S f := by
    intro f w2 h F
    exact ⟨w2, by rw [c_turnI (X := X) T E K hp hi hw h]; exact c_stop T F, F⟩
  unfold itemP
  by_cases ck : kwN S p = 0
  · rw [if_neg (fun z => z ck)]
    rw [if_pos ck, if_pos ck] at pf
    by_cases cp : pwN S p = 0 ∨ pwN S p < q
    · rw [if_pos cp]
      refine ⟨fun k t xs z => (by cases z), fun f z => ?_⟩
      cases z
      refine bad _ w ?_ (mf_of K hp)
      rw [pf]
      by_cases c0 : pwN S p = 0
      · rw [if_pos c0]
        have e : ¬ nI q ≤ -1 := by
          rw [Int32.le_iff_toInt_le, nI_toInt (by omega)]
          have : (-1 : Int32).toInt = -1 := rfl
          omega
        simp (disch := first | assumption | decide) only [s55_19, s55_20, s55_21, s55_24, s55_27, s55_28, mk_g K, List.getElem?_cons_zero, List.getElem?_cons_succ, Option.bind_some, Option.toList_some, Option.toList_none, List.cons_append, List.nil_append, not_true_eq_false, if_false, if_true, if_neg e]
      · rw [if_neg c0]
        have e : ¬ nI q ≤ nI (pwN S p) := nI_ge (by omega) (by omega)
        simp (disch := first | assumption | decide) only [s55_19, s55_20, s55_21, s55_24, s55_27, s55_28, mk_g K, List.getElem?_cons_zero, List.getElem?_cons_succ, Option.bind_some, Option.toList_some, Option.toList_none, List.cons_append, List.nil_append, not_true_eq_false, if_false, if_true, if_neg e]
    · rw [if_neg cp]
      have c0 : ¬ pwN S p = 0 := fun z => cp (Or.inl z)
      have cq : q ≤ pwN S p := by omega
      rw [if_neg c0] at pf
      have e : nI q ≤ nI (pwN S p) := nI_le cq (by omega)
      obtain ⟨w1, a1, K1⟩ := c_enter (X := X) (k := pwN S p) (x1 := -1) K cq p3 (by omega) hI
      have np : ¬ nI (pwN S p) = 0 := nI_ne0 (by omega) (by omega)
      have r81 := mk_r8 K1
      obtain ⟨w2, a2, K2⟩ := c_stepM (X := X) K1 E hp
      have r52 := mk_r5 K2
      have hd : ex_call X 55 [.ref 5] w = ex_go X 55 75 [(0, .ref 5), (2, .int (nI (pwN S p)))] [] w2 := by
        rw [pf]
        simp (disch := first | assumption | decide) only [s55_19, s55_20, s55_21, s55_24, mk_g K, List.getElem?_cons_zero, List.getElem?_cons_succ, Option.bind_some, Option.toList_some, Option.toList_none, List.cons_append, List.nil_append, not_true_eq_false, if_false, if_true, if_pos e]
        rw [a1]
        simp (disch := first | assumption | decide) only [s55_58, s55_59, s55_62, s55_63, s55_64, s55_67, s55_68, s55_69, s55_72, if_pos np, mk_g K1, List.getElem?_cons_zero, List.getElem?_cons_succ, Option.bind_some, Option.toList_some, Option.toList_none, List.cons_append, List.nil_append, not_true_eq_false, if_false, if_true, a2]
      have hMl : (nxD D I q (pwN S p) ++ ((nxI I q (pwN S p)).length + 1) :: (nxI I q (pwN S p)).flatten).length ≤ b := by
        have := congrArg List.length (nx_M0 (D := D) (I := I) cq)
        rw [M0_len, List.length_append, List.length_replicate] at this
        rw [List.length_append, List.length_cons]
        omega
      have ob := o_byte (X := X) K2 E wb.2.2.1 hMl h120
      -- what a reader's answer gives
      have fin : ∀ (r : PR), outM w0 L S (ex_call X 55 [.ref 5] w) r (nxD D I q (pwN S p) ++ ((nxI I q (pwN S p)).length + 1) :: (nxI I q (pwN S p)).flatten) b (nI (pwN S p)) (nI (nxD D I q (pwN S p)).length) 0 hl hr cs ls ns → (∀ t xs, r = .inr (t, xs) → p < t) → itOut X w0 L R S (ex_go X 41 20 [(0, .ref 5), (1, .ref R), (2, .int 1), (3, .int (nI i))] [] w) (match r with | .inl f => .inl f | .inr (t, xs) => .inr (pwN S p, t, xs)) p b D I q := by
        intro r o hpt
        cases r with
        | inl f =>
          refine ⟨fun k t xs z => (by cases z), fun g z => ?_⟩
          cases z
          obtain ⟨w3, a3, F3⟩ := o.2 f rfl
          exact bad f w3 a3 F3
        | inr u =>
          obtain ⟨t, xs⟩ := u
          refine ⟨fun k t xs z => ?_, fun g z => (by cases z)⟩
          cases z
          obtain ⟨w3, v3, a3, K3, t3, b3⟩ := o.1 t xs rfl
          have := hpt t xs rfl
          exact ⟨i + 1, v3, _, _, _, _, _, w3, c_turnI (X := X) T E K hp hi hw a3, by omega, t3, this, cq, p3, K3, b3⟩
      have bt : ∀ (p b t : Nat) (xs : List Nat), p ≤ S.length → bytP S p b = .inr (t, xs) → t = wT S p ∧ b + xs.length ≤ 120 := by
        intro p b t xs hp h
        unfold bytP one at h
        split at h
        next ys e =>
          cases h
          have := rNum_len e
          exact ⟨rfl, by omega⟩
        next => cases h
      have tw : ∀ (t : Nat) (xs : List Nat), twoP S (wT S p) b = .inr (t, xs) → p < t := by
        intro t xs h
        unfold twoP andP at h
        split at h
        next => cases h
        next t1 ys e =>
          split at h
          next => cases h
          next t2 zs e2 =>
            cases h
            have h1 := bt _ _ _ _ wb.2.2.1 e
            have h2 := bt _ _ _ _ (by rw [h1.1]; exact (w_b wb.2.2.1).2.2.1) e2
            have w2 := w_b wb.2.2.1
            have w3 := w_b w2.2.2.1
            rw [h1.1] at h2
            omega
      have c123 : pwN S p = 1 ∨ pwN S p = 2 ∨ pwN S p = 3 := by omega
      rcases c123 with c | c | c
      · -- a field
        rw [if_pos c]
        have o2 : outM w0 L S (ex_call X 55 [.ref 5] w) (twoP S (wT S p) b) (nxD D I q (pwN S p) ++ ((nxI I q (pwN S p)).length + 1) :: (nxI I q (pwN S p)).flatten) b (nI (pwN S p)) (nI (nxD D I q (pwN S p)).length) 0 hl hr cs ls ns := by
          refine out_and ob ?_ ?_
          · intro w3 h
            rw [hd, c]
            simp (disch := first | assumption | decide) only [s55_75, s55_76, s55_79, s55_82, s55_83, h, List.getElem?_cons_zero, List.getElem?_cons_succ, Option.bind_some, Option.toList_some, Option.toList_none, List.cons_append, List.nil_append, not_true_eq_false, if_false, if_true]
          · intro w3 v3 t xs h K3 ht hb3
            have r53 := mk_r5 K3
            have on2 := o_byte (X := X) K3 E ht (by rw [List.length_append]; omega) hb3
            have e : ∀ r w4, (r = 0 ∨ r = 1) → ex_call X 60 [.ref 5] w3 = some (some (.int r), w4) → ex_call X 55 [.ref 5] w = some (some (.int r), w4) := by
              intro r w4 hr0 h4
              rw [hd, c]
              simp (disch := first | assumption | decide) only [s55_75, s55_76, s55_79, s55_82, s55_83, s55_84, s55_85, s55_112, s55_113, s55_116, h, List.getElem?_cons_zero, List.getElem?_cons_succ, Option.bind_some, Option.toList_some, Option.toList_none, List.cons_append, List.nil_append, not_true_eq_false, if_false, if_true, if_pos n1, if_pos, if_neg, h4]
            refine ⟨fun t xs z => ?_, fun f z => ?_⟩
            · obtain ⟨w4, v4, b1, b2⟩ := on2.1 t xs z
              exact ⟨w4, v4, e 1 w4 (Or.inr rfl) b1, b2⟩
            · obtain ⟨w4, b1, b2⟩ := on2.2 f z
              exact ⟨w4, e 0 w4 (Or.inl rfl) b1, b2⟩
        exact fin _ o2 tw
      · -- a code
        rw [if_neg (by omega), if_pos c]
        -- its two bytes
        have o2 : ∀ (o : ex_O), (∀ w3 w4, ex_call X 60 [.ref 5] w2 = some (some (.int 1), w3) → ex_call X 60 [.ref 5] w3 = some (some (.int 1), w4) → o = some (some (.int 1), w4)) → (∀ w3, ex_call X 60 [.ref 5] w2 = some (some (.int 0), w3) → o = some (some (.int 0), w3)) → (∀ w3 w4, ex_call X 60 [.ref 5] w2 = some (some (.int 1), w3) → ex_call X 60 [.ref 5] w3 = some (some (.int 0), w4) → o = some (some (.int 0), w4)) → outM w0 L S o (twoP S (wT S p) b) (nxD D I q (pwN S p) ++ ((nxI I q (pwN S p)).length + 1) :: (nxI I q (pwN S p)).flatten) b (nI (pwN S p)) (nI (nxD D I q (pwN S p)).length) 0 hl hr cs ls ns := by
          intro o h1 h2 h3
          refine out_and ob h2 ?_
          intro w3 v3 t xs h K3 ht hb3
          have on2 := o_byte (X := X) K3 E ht (by rw [List.length_append]; omega) hb3
          refine ⟨fun t xs z => ?_, fun f z => ?_⟩
          · obtain ⟨w4, v4, b1, b2⟩ := on2.1 t xs z
            exact ⟨w4, v4, h1 w3 w4 h b1, b2⟩
          · obtain ⟨w4, b1, b2⟩ := on2.2 f z
            exact ⟨w4, h3 w3 w4 h b1, b2⟩
        have o3 := o2 ((ex_call X 60 [.ref 5] w2).bind (fun z => if z.1 = some (.int 1) then ex_call X 60 [.ref 5] z.2 else some z)) (fun w3 w4 h1 h2 => by rw [h1, Option.bind_some, if_pos rfl, h2]) (fun w3 h => by rw [h, Option.bind_some, if_neg (fun z => by cases z)]) (fun w3 w4 h1 h2 => by rw [h1, Option.bind_some, if_pos rfl, h2])
        have hd0 : ∀ w3, ((ex_call X 60 [.ref 5] w2).bind (fun z => if z.1 = some (.int 1) then ex_call X 60 [.ref 5] z.2 else some z)) = some (some (.int 0), w3) → ex_call X 55 [.ref 5] w = some (some (.int 0), w3) := by
          intro w3 h
          cases hA : bytP S (wT S p) b with
          | inl f =>
            obtain ⟨w4, a4, _⟩ := ob.2 f hA
            rw [a4, Option.bind_some, if_neg (fun z => by cases z)] at h
            rw [← h, hd, c]
            simp (disch := first | assumption | decide) only [s55_75, s55_76, s55_79, s55_82, s55_83, a4, List.getElem?_cons_zero, List.getElem?_cons_succ, Option.bind_some, Option.toList_some, Option.toList_none, List.cons_append, List.nil_append, not_true_eq_false, if_false, if_true]
          | inr u =>
            obtain ⟨t, xs⟩ := u
            obtain ⟨w4, v4, a4, K4, _⟩ := ob.1 t xs hA
            have r54 := mk_r5 K4
            rw [a4, Option.bind_some, if_pos rfl] at h
            have h : ex_call X 60 [.ref 5] w4 = some (some (.int 0), w3) := h
            rw [hd, c]
            simp (disch := first | assumption | decide) only [s55_75, s55_76, s55_79, s55_82, s55_83, s55_84, s55_85, s55_117, s55_118, s55_121, s55_124, s55_125, s55_128, s55_131, s55_132, s55_135, s55_136, a4, List.getElem?_cons_zero, List.getElem?_cons_succ, Option.bind_some, Option.toList_some, Option.toList_none, List.cons_append, List.nil_append, not_true_eq_false, if_false, if_true, if_pos n1, if_pos, if_neg, h]
        have hd1 : ∀ w3 w4 r, (r = 0 ∨ r = 1) → ((ex_call X 60 [.ref 5] w2).bind (fun z => if z.1 = some (.int 1) then ex_call X 60 [.ref 5] z.2 else some z)) = some (some (.int 1), w3) → ex_rc w3 5 4 = true → ex_call X 61 [.ref 5] w3 = some (some (.int r), w4) → ex_call X 55 [.ref 5] w = some (some (.int r), w4) := by
          intro w3 w5 r hr0 h r53 h5
          cases hA : bytP S (wT S p) b with
          | inl f =>
            obtain ⟨w4, a4, _⟩ := ob.2 f hA
            rw [a4, Option.bind_some, if_neg (fun z => by cases z)] at h
            cases h
          | inr u =>
            obtain ⟨t, xs⟩ := u
            obtain ⟨w4, v4, a4, K4, _⟩ := ob.1 t xs hA
            have r54 := mk_r5 K4
            rw [a4, Option.bind_some, if_pos rfl] at h
            have h : ex_call X 60 [.ref 5] w4 = some (some (.int 1), w3) := h
            rw [hd, c]
            rcases hr0 with z | z <;> subst z
            · simp (disch := first | assumption | decide) only [s55_75, s55_76, s55_79, s55_82, s55_83, s55_84, s55_85, s55_117, s55_118, s55_121, s55_124, s55_125, s55_128, s55_131, s55_132, s55_135, s55_136, a4, List.getElem?_cons_zero, List.getElem?_cons_succ, Option.bind_some, Option.toList_some, Option.toList_none, List.cons_append, List.nil_append, not_true_eq_false, if_false, if_true, if_pos n1, if_pos, if_neg, h, if_neg n1, h5]
            · simp (disch := first | assumption | decide) only [s55_75, s55_76, s55_79, s55_82, s55_83, s55_84, s55_85, s55_117, s55_118, s55_121, s55_124, s55_125, s55_128, s55_131, s55_132, s55_135, s55_136, a4, List.getElem?_cons_zero, List.getElem?_cons_succ, Option.bind_some, Option.toList_some, Option.toList_none, List.cons_append, List.nil_append, not_true_eq_false, if_false, if_true, if_pos n1, if_pos, if_neg, h, if_neg n1, h5]
        generalize ((ex_call X 60 [.ref 5] w2).bind (fun z => if z.1 = some (.int 1) then ex_call X 60 [.ref 5] z.2 else some z)) = o at o3 hd0 hd1
        unfold andP
        cases hT : twoP S (wT S p) b with
        | inl f =>
          refine ⟨fun k t xs z => (by cases z), fun g z => ?_⟩
          cases z
          obtain ⟨w3, a3, F3⟩ := o3.2 f hT
          exact bad f w3 (hd0 w3 a3) F3
        | inr u =>
          obtain ⟨t, xs⟩ := u
          obtain ⟨w3, v3, a3, K3, t3, b3⟩ := o3.1 t xs hT
          have pt3 := tw t xs hT
          have r53 := mk_r5 K3
          have hM3 : (nxD D I q (pwN S p) ++ ((nxI I q (pwN S p)).length + 1) :: (nxI I q (pwN S p)).flatten ++ xs).length ≤ b + xs.length := by rw [List.length_append]; omega
          have oc := c_openCode (X := X) K3 E t3 hM3 b3
          show itOut X w0 L R S _ (match ((match codeP S t (b + xs.length) with | .inl f => .inl f | .inr (t2, ys) => .inr (t2, xs ++ ys)) : PR) with | .inl f => .inl f | .inr (t, xs) => .inr (pwN S p, t, xs)) p b D I q
          unfold codeP
          by_cases cO : wd S t = txN 10 ∧ b + xs.length + 1 ≤ 120
          · rw [if_pos cO]
            obtain ⟨w4, v4, a4, K4⟩ := oc.1 cO
            have wbt := w_b t3
            have tn := c_turnI (X := X) T E K hp hi hw (hd1 w3 w4 1 (Or.inr rfl) a3 r53 a4)
            have bd := c_body (X := X) (i := i + 1) T E hJ (by rw [List.length_append, List.length_singleton]) (by rw [List.length_append, List.length_singleton]; omega) cO.2 (by omega) wbt.2.2.1 (wT_E t3) K4
            rw [tn]
            cases hB : bodP S (wT S t) (b + xs.length + 1) with
            | inl f =>
              refine ⟨fun k t xs z => (by cases z), fun g z => ?_⟩
              cases z
              exact bd.2 f hB
            | inr u =>
              obtain ⟨t2, Y⟩ := u
              refine ⟨fun k t xs z => ?_, fun g z => (by cases z)⟩
              cases z
              obtain ⟨i2, v5, hl5, hr5, ls5, ns5, w5, b1, b2, b4, b5, b6, b7⟩ := bd.1 t2 Y hB
              refine ⟨i2, v5, hl5, hr5, nI (nxD D I q (pwN S p) ++ ((nxI I q (pwN S p)).length + 1) :: (nxI I q (pwN S p)).flatten ++ xs).length, ls5, ns5, w5, b1, b2, b4, by omega, cq, p3, ?_, by simp only [List.length_append, List.length_cons]; omega⟩
              have es : (nxD D I q (pwN S p) ++ ((nxI I q (pwN S p)).length + 1) :: (nxI I q (pwN S p)).flatten ++ xs ++ [0] ++ Y).set (nxD D I q (pwN S p) ++ ((nxI I q (pwN S p)).length + 1) :: (nxI I q (pwN S p)).flatten ++ xs).length Y.length = nxD D I q (pwN S p) ++ ((nxI I q (pwN S p)).length + 1) :: (nxI I q (pwN S p)).flatten ++ (xs ++ Y.length :: Y) := by
                rw [List.append_assoc _ [0] Y, List.set_append_right _ _ (Nat.le_refl _), Nat.sub_self, ← List.append_assoc _ xs]
                rfl
              rw [es] at b6
              have eb : b + (xs ++ Y.length :: Y).length = b + xs.length + 1 + Y.length := by rw [List.length_append, List.length_cons]; omega
              rw [eb]
              exact b6
          · rw [if_neg cO]
            refine ⟨fun k t xs z => (by cases z), fun g z => ?_⟩
            cases z
            exact bad _ w3 (hd1 w3 w3 0 (Or.inl rfl) a3 r53 (oc.2 cO)) (mf_of K3 t3)
      · -- an attachment
        rw [if_neg (by omega), if_neg (by omega)]
        have o2 : outM w0 L S (ex_call X 55 [.ref 5] w) (andP (bytP S (wT S p) b) b (fun t b2 => one S t (rHex S 1 t b2))) (nxD D I q (pwN S p) ++ ((nxI I q (pwN S p)).length + 1) :: (nxI I q (pwN S p)).flatten) b (nI (pwN S p)) (nI (nxD D I q (pwN S p)).length) 0 hl hr cs ls ns := by
          refine out_and ob ?_ ?_
          · intro w3 h
            rw [hd, c]
            simp (disch := first | assumption | decide) only [s55_75, s55_76, s55_79, s55_82, s55_83, h, List.getElem?_cons_zero, List.getElem?_cons_succ, Option.bind_some, Option.toList_some, Option.toList_none, List.cons_append, List.nil_append, not_true_eq_false, if_false, if_true]
          · intro w3 v3 t xs h K3 ht hb3
            have r53 := mk_r5 K3
            have on2 := o_hex (X := X) (cn := 1) (Or.inr rfl) K3 E ht (by rw [List.length_append]; omega) hb3
            have e : ∀ r w4, (r = 0 ∨ r = 1) → ex_call X 48 [.ref 5, .int 1] w3 = some (some (.int r), w4) → ex_call X 55 [.ref 5] w = some (some (.int r), w4) := by
              intro r w4 hr0 h4
              rw [hd, c]
              simp (disch := first | assumption | decide) only [s55_75, s55_76, s55_79, s55_82, s55_83, s55_84, s55_85, s55_137, s55_138, s55_139, s55_142, h, List.getElem?_cons_zero, List.getElem?_cons_succ, Option.bind_some, Option.toList_some, Option.toList_none, List.cons_append, List.nil_append, not_true_eq_false, if_false, if_true, if_pos n1, if_pos, if_neg, h4]
            refine ⟨fun t xs z => ?_, fun f z => ?_⟩
            · obtain ⟨w4, v4, b1, b2⟩ := on2.1 t xs z
              exact ⟨w4, v4, e 1 w4 (Or.inr rfl) b1, b2⟩
            · obtain ⟨w4, b1, b2⟩ := on2.2 f z
              exact ⟨w4, e 0 w4 (Or.inl rfl) b1, b2⟩
        refine fin _ o2 (fun t xs h => ?_)
        unfold andP at h
        split at h
        next => cases h
        next t1 ys e =>
          split at h
          next => cases h
          next t2 zs e2 =>
            cases h
            have h1 := bt _ _ _ _ wb.2.2.1 e
            have w2 := w_b wb.2.2.1
            have e2 : one S t1 (rHex S 1 t1 (b + ys.length)) = .inr (t, zs) := e2
            unfold one at e2
            split at e2
            next us e3 =>
              cases e2
              have w3 := w_b w2.2.2.1
              rw [h1.1]
              omega
            next => cases e2
  · rw [if_pos ck]
    rw [if_neg ck, if_neg ck] at pf
    by_cases cq : q = 0
    · subst cq
      have e : nI 0 ≤ 0 := by decide
      obtain ⟨w1, a1, K1⟩ := c_enter (X := X) (k := 0) (x1 := nI (kwN S p)) K (Nat.le_refl _) (by decide) (by omega) hI
      have r51 := mk_r5 K1
      have a1 : ex_go X 55 29 [(0, .ref 5), (1, .int (nI (kwN S p))), (2, .int 0)] [] w = ex_go X 55 58 [(0, .ref 5), (1, .int (nI (kwN S p))), (2, .int 0)] [] w1 := a1
      have hd : ∀ r w2, (r = 0 ∨ r = 1) → ex_call X 58 [.ref 5, .int (nI (kwN S p))] w1 = some (some (.int r), w2) → ex_call X 55 [.ref 5] w = some (some (.int r), w2) := by
        intro r w2 hr0 h
        rw [pf]
        simp (disch := first | assumption | decide) only [s55_19, s55_20, s55_21, s55_24, mk_g K, List.getElem?_cons_zero, List.getElem?_cons_succ, Option.bind_some, Option.toList_some, Option.toList_none, List.cons_append, List.nil_append, not_true_eq_false, if_false, if_true, if_pos e]
        rw [a1]
        simp (disch := first | assumption | decide) only [s55_58, s55_59, s55_62, s55_63, s55_64, s55_67, List.getElem?_cons_zero, List.getElem?_cons_succ, Option.bind_some, Option.toList_some, Option.toList_none, List.cons_append, List.nil_append, not_true_eq_false, if_false, if_true, h]
      have hMl : (nxD D I 0 0 ++ ((nxI I 0 0).length + 1) :: (nxI I 0 0).flatten).length ≤ b := by
        have := congrArg List.length (nx_M0 (D := D) (I := I) (q := 0) (k := 0) (Nat.le_refl _))
        rw [M0_len, List.length_append, List.length_replicate] at this
        rw [List.length_append, List.length_cons]
        omega
      have re := c_readEntry (X := X) (kd := kwN S p) (by omega) K1 E hp hMl h120
      by_cases cR : b + 1 ≤ 120
      · rw [if_pos ⟨rfl, cR⟩]
        have o := re.1 cR
        cases hE : entP S (kwN S p) (wT S p) (b + 1) with
        | inl f =>
          refine ⟨fun k t xs z => (by cases z), fun g z => ?_⟩
          cases z
          obtain ⟨w3, a3, F3⟩ := o.2 f hE
          exact bad f w3 (hd 0 w3 (Or.inl rfl) a3) F3
        | inr u =>
          obtain ⟨t, xs⟩ := u
          refine ⟨fun k t xs z => ?_, fun g z => (by cases z)⟩
          cases z
          obtain ⟨w3, v3, a3, K3, t3, b3⟩ := o.1 t xs hE
          have hpt : wT S p ≤ t := by
            have w2 := w_b wb.2.2.1
            have one_le : ∀ (q : Option (List Nat)), one S (wT S p) q = .inr (t, xs) → wT S p ≤ t := by
              intro q h
              unfold one at h
              split at h
              next => cases h; omega
              next => cases h
            unfold entP at hE
            split at hE
            · exact one_le _ hE
            · split at hE
              · exact one_le _ hE
              · split at hE
                · unfold twoP andP at hE
                  split at hE
                  next => cases hE
                  next t1 ys e1 =>
                    split at hE
                    next => cases hE
                    next t2 zs e2 =>
                      cases hE
                      unfold bytP one at e1 e2
                      split at e1
                      next =>
                        cases e1
                        split at e2
                        next =>
                          cases e2
                          have w3 := w_b w2.2.2.1
                          omega
                        next => cases e2
                      next => cases e1
                · exact one_le _ hE
          refine ⟨i + 1, v3, hl, hr, cs, ls, ns, w3, c_turnI (X := X) T E K hp hi hw (hd 1 w3 (Or.inr rfl) a3), by omega, t3, by omega, Nat.le_refl _, by decide, ?_, by rw [List.length_cons]; omega⟩
          rw [List.append_assoc] at K3
          have eb : b + (kwN S p :: xs).length = b + 1 + xs.length := by rw [List.length_cons]; omega
          rw [eb]
          exact K3
      · rw [if_neg (fun z => cR z.2)]
        refine ⟨fun k t xs z => (by cases z), fun g z => ?_⟩
        cases z
        obtain ⟨w3, a3, F3⟩ := re.2 cR
        exact bad _ w3 (hd 0 w3 (Or.inl rfl) a3) F3
    · rw [if_neg (fun z => cq z.1)]
      have e : ¬ nI q ≤ 0 := nI_ge (a := 0) (by omega) (by omega)
      refine ⟨fun k t xs z => (by cases z), fun g z => ?_⟩
      cases z
      refine bad _ w ?_ (mf_of K hp)
      rw [pf]
      simp (disch := first | assumption | decide) only [s55_19, s55_20, s55_21, s55_24, s55_27, s55_28, mk_g K, List.getElem?_cons_zero, List.getElem?_cons_succ, Option.bind_some, Option.toList_some, Option.toList_none, List.cons_append, List.nil_append, not_true_eq_false, if_false, if_true, if_neg e]
end MAKE
