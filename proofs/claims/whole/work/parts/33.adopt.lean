/-! both scans from the call on; a row copied; a block taken over -/
section ADOPT
variable {X : Option (List Int32)} {w : ex_W} {m : Nat → Int32} {v : Int64} {xs : List Int32} {B : List Nat}
theorem y_takeScan (M : isM w m v xs B) : (scanN B = none → ex_call X 129 [.ref 32] w = ex_go X 129 82 [(0, .ref 32)] [] (mF w m v (-1))) ∧ (∀ f, scanN B = some f → f ≤ 124 ∧ ex_call X 129 [.ref 32] w = ex_go X 129 82 [(0, .ref 32)] [] (mF w m v (nI f))) := by
  have z1 : (32 : Nat) < 1000 := by decide
  have z2 : (35 : Nat) < 1000 := by decide
  have hl := limN_le B
  have hBx : B.length ≤ 124 := by have := M.2.2.2.1.1; have := M.2.2.1; omega
  have M1 := isM_F (f := -1) M
  have hf1 : upd m 18 (-1) 18 = -1 := pk_us
  have h6 : upd m 18 (-1) 5 = nI B.length := M1.2.2.2.2.2
  have rc := y_rc M1
  have em : ¬ (0 : Int32) ≤ -1 := by decide
  have start : ex_call X 129 [.ref 32] w = ex_go X 129 5 [(0, .ref 32)] [] (mF w m v (-1)) := by
    show ex_go X 129 0 [(0, .ref 32)] [] w = _
    simp only [s129_0, s129_1, s129_2 z1, ex_pf_i M.1 (k := 18) (by rw [mo_len]; decide), mo_s18, Option.bind_some]
    rfl
  -- the end, when nothing is wrong so far
  have fin : ∀ e : Nat, e < 2 ^ 20 → ex_go X 129 62 [(0, .ref 32), (1, .int (nI e))] [] (mF w m v (-1)) = if e < B.length then ex_go X 129 82 [(0, .ref 32)] [] (mF w m v (nI e)) else ex_go X 129 82 [(0, .ref 32)] [] (mF w m v (-1)) := by
    intro e he
    simp only [s129_62, s129_63 z1, ex_gf_i M1.1, mo_18, hf1, Option.bind_some, s129_66, if_neg em, s129_69, s129_70, s129_71 z1, mo_5, h6, s129_74]
    by_cases c : e < B.length
    · rw [if_neg (nI_ge c (by omega)), if_pos c]
      simp only [s129_77, s129_78, s129_79 z1, ex_pf_i M1.1 (k := 18) (by rw [mo_len]; decide), mo_s18, Option.bind_some]
      have e2 : (mF w m v (-1)).set 32 (.inl (8, mo (upd (upd m 18 (-1)) 18 (nI e)) v)) = mF w m v (nI e) := mF_F
      rw [e2]
    · rw [if_pos (nI_le (by omega) (by omega)), if_neg c]
  -- the end, when something is
  have finF : ∀ (f : Nat) (y : Int32), f < 2 ^ 20 → ex_go X 129 62 [(0, .ref 32), (1, .int y)] [] (mF w m v (nI f)) = ex_go X 129 82 [(0, .ref 32)] [] (mF w m v (nI f)) := by
    intro f y hf
    have eu : upd m 18 (nI f) 18 = nI f := pk_us
    have e1 : (0 : Int32) ≤ nI f := nI_pos' (by omega)
    simp only [s129_62, s129_63 z1, ex_gf_i (isM_F (f := nI f) M).1, mo_18, eu, Option.bind_some, s129_66, if_pos e1]
  -- from 35 on, when something is wrong
  have wr : ∀ (f : Nat) (y : Int32), f < 2 ^ 20 → ex_go X 129 35 [(0, .ref 32), (1, .int y)] [] (mF w m v (nI f)) = ex_go X 129 82 [(0, .ref 32)] [] (mF w m v (nI f)) := by
    intro f y hf
    have eu : upd m 18 (nI f) 18 = nI f := pk_us
    have MF := isM_F (f := nI f) M
    have bf := y_behindF (X := X) (y := y) (z := 1) MF.1 eu (by omega)
    have pf := y_partsF (X := X) (f := f) MF.1 eu (by omega) 4 y (by omega)
    have ez : nI (4 - 4) = 0 := rfl
    rw [ez] at pf
    simp only [s129_35, s129_36, s129_37, s129_38 (y_rc MF), bf, Option.bind_some, Option.toList_some, List.cons_append, List.nil_append, s129_41, s129_42, s129_43]
    rw [pf]
    exact finF f y hf
  rw [start]
  by_cases c0 : 0 < limN B
  · have bo := y_behindOk (X := X) (p := 0) (n := 1) M1 hf1 (by omega)
    have rd := y_rd M1 (i := 0) (by omega)
    have hb := M.2.2.2.2.1 0
    have bo : ex_call X 130 [.ref 32, .int 0, .int 1] (mF w m v (-1)) = some (some (.int 1), mF w m v (-1)) := bo
    have rd : ex_al (mF w m v (-1)) 35 0 0 = some (nI (B.getD 0 0)) := rd
    have head : ex_go X 129 5 [(0, .ref 32)] [] (mF w m v (-1)) = if nI (B.getD 0 0) = 77 then ex_go X 129 35 [(0, .ref 32), (1, .int 1)] [] (mF w m v (-1)) else ex_go X 129 35 [(0, .ref 32), (1, .int 1)] [] (mF w m v (nI 0)) := by
      simp only [s129_5, s129_6, s129_7, s129_8 rc, bo, Option.bind_some, Option.toList_some, List.cons_append, List.nil_append, s129_11, s129_12, s129_13 z1, ex_gf_i M1.1, mo_18, hf1, s129_16, if_neg em, s129_19, s129_20 z1, mo_4, s129_23, s129_24 z2, rd, s129_25, s129_27, s129_30, s129_31, s129_32 z1, ex_pf_i M1.1 (k := 18) (by rw [mo_len]; decide), mo_s18]
      have e2 : (mF w m v (-1)).set 32 (.inl (8, mo (upd (upd m 18 (-1)) 18 0) v)) = mF w m v (nI 0) := mF_F
      rw [e2]
    rw [head]
    by_cases c77 : B.getD 0 0 = 77
    · have e7 : nI (B.getD 0 0) = 77 := by rw [c77]; rfl
      rw [if_pos e7]
      have sc : scanN B = match partsN B 4 2 with
          | .inl f => some f
          | .inr e => if e < B.length then some e else none := by
        unfold scanN
        rw [if_neg (fun z => z.2 c77)]
        all_goals (cases partsN B 4 2 <;> rfl)
      by_cases c1 : 2 ≤ limN B
      · have bo1 : ex_call X 130 [.ref 32, .int 1, .int 1] (mF w m v (-1)) = some (some (.int (nI 2)), mF w m v (-1)) := y_behindOk (X := X) (p := 1) (n := 1) M1 hf1 (by omega)
        obtain ⟨g1, g2⟩ := y_parts (X := X) M1 hf1 4 2 (by omega) (by omega)
        have ez : nI (4 - 4) = 0 := rfl
        rw [ez] at g1 g2
        have h44 : ex_go X 129 35 [(0, .ref 32), (1, .int 1)] [] (mF w m v (-1)) = ex_go X 129 44 [(0, .ref 32), (1, .int (nI 2)), (2, .int 0)] [] (mF w m v (-1)) := by
          simp only [s129_35, s129_36, s129_37, s129_38 rc, bo1, Option.bind_some, Option.toList_some, List.cons_append, List.nil_append, s129_41, s129_42, s129_43]
        rw [h44, sc]
        cases hp : partsN B 4 2 with
        | inl f =>
          obtain ⟨hfb, y, hy⟩ := g2 f hp
          have e2 : mF (mF w m v (-1)) (upd m 18 (-1)) v (nI f) = mF w m v (nI f) := mF_F
          rw [e2] at hy
          refine ⟨fun h => (by cases h), fun f2 h => ?_⟩
          cases h
          exact ⟨by omega, by rw [hy]; exact finF f y (by omega)⟩
        | inr e =>
          have hy := g1 e hp
          dsimp only
          have heb : e ≤ 200 := by
            have key : ∀ (r p e : Nat), p ≤ 120 → partsN B r p = .inr e → e ≤ 120 := by
              intro r
              induction r with
              | zero => intro p e h1 h2; cases h2; exact h1
              | succ r ihr =>
                intro p e h1 h2
                rw [partsN] at h2
                split at h2
                next hlt =>
                  split at h2
                  next => cases h2
                  next e5 h5 =>
                    obtain ⟨-, t2, -⟩ := itemsN_inr _ _ _ h5
                    have t2 := t2 (by omega)
                    exact ihr e5 e (by omega) h2
                next => cases h2
            have := key 4 2 e (by omega) hp
            omega
          rw [hy, fin e (by omega)]
          by_cases c : e < B.length
          · rw [if_pos c, if_pos c]
            refine ⟨fun h => (by cases h), fun f2 h => ?_⟩
            cases h
            exact ⟨by omega, rfl⟩
          · rw [if_neg c, if_neg c]
            exact ⟨fun _ => rfl, fun f2 h => (by cases h)⟩
      · have bn1 : ex_call X 130 [.ref 32, .int 1, .int 1] (mF w m v (-1)) = some (some (.int (nI 1)), mF (mF w m v (-1)) (upd m 18 (-1)) v (nI (limN B))) := y_behindNo (X := X) (p := 1) (n := 1) M1 hf1 (by omega) (by omega)
        have hp : partsN B 4 2 = .inl (limN B) := by rw [partsN, if_neg (by omega)]
        rw [sc, hp]
        refine ⟨fun h => (by cases h), fun f2 h => ?_⟩
        cases h
        refine ⟨by omega, ?_⟩
        have e2 : mF (mF w m v (-1)) (upd m 18 (-1)) v (nI (limN B)) = mF w m v (nI (limN B)) := mF_F
        rw [e2] at bn1
        have MF := isM_F (f := nI (limN B)) M
        have pf := y_partsF (X := X) (f := limN B) MF.1 pk_us (by omega) 4 (nI 1) (by omega)
        have ez : nI (4 - 4) = 0 := rfl
        rw [ez] at pf
        simp only [s129_35, s129_36, s129_37, s129_38 rc, bn1, Option.bind_some, Option.toList_some, List.cons_append, List.nil_append, s129_41, s129_42, s129_43]
        rw [pf]
        exact finF _ _ (by omega)
    · have e7 : ¬ nI (B.getD 0 0) = 77 := fun z => c77 ((nI_eq (b := 77) (by omega) (by decide)).mp z)
      rw [if_neg e7]
      have sc : scanN B = some 0 := by
        unfold scanN
        rw [if_pos ⟨c0, c77⟩]
      rw [sc]
      refine ⟨fun h => (by cases h), fun f2 h => ?_⟩
      cases h
      exact ⟨by omega, wr 0 1 (by omega)⟩
  · have l0 : limN B = 0 := by omega
    have sc : scanN B = some 0 := by
      unfold scanN
      rw [if_neg (fun z => c0 z.1), partsN, if_neg (by omega), l0]
    have bn : ex_call X 130 [.ref 32, .int 0, .int 1] (mF w m v (-1)) = some (some (.int (nI 0)), mF (mF w m v (-1)) (upd m 18 (-1)) v (nI (limN B))) := y_behindNo (X := X) (p := 0) (n := 1) M1 hf1 (by omega) (by omega)
    have e2 : mF (mF w m v (-1)) (upd m 18 (-1)) v (nI (limN B)) = mF w m v (nI 0) := by rw [l0]; exact mF_F
    rw [e2] at bn
    have MF := isM_F (f := nI 0) M
    have eu : upd m 18 (nI 0) 18 = nI 0 := pk_us
    have e1 : (0 : Int32) ≤ nI 0 := by decide
    rw [sc]
    refine ⟨fun h => (by cases h), fun f2 h => ?_⟩
    cases h
    refine ⟨by omega, ?_⟩
    simp only [s129_5, s129_6, s129_7, s129_8 rc, bn, Option.bind_some, Option.toList_some, List.cons_append, List.nil_append, s129_11, s129_12, s129_13 z1, ex_gf_i MF.1, mo_18, eu, s129_16, if_pos e1]
    exact wr 0 _ (by omega)
end ADOPT
/-! a row copied from another -/
section COPY
variable {X : Option (List Int32)} {g h c : Nat} {us : List Int32} {B : List Nat}
theorem r_copyLoop (hu : us.length < 2 ^ 20) (hB : ∀ j, B.getD j 0 < 256) (hne : h ≠ g) : ∀ (k i : Nat) (xs : List Int32) (w : ex_W), isRow w g (g + 1) xs i → isRow w h c us B.length → holds us B → B.length ≤ xs.length → c ≠ g → c ≠ g + 1 → h ≠ g + 1 → i + k = B.length → (∀ j, j < i → xs.getD j 0 = nI (B.getD j 0)) → ∃ ys : List Int32, ys.length = xs.length ∧ holds ys B ∧ ex_go X 22 7 [(0, .ref g), (1, .ref h), (2, .int (nI i))] [] w = some (none, rowW w g (g + 1) ys B.length) := by
  intro k
  induction k with
  | zero =>
    intro i xs w R S H hc1 n1 n2 n3 hi hx
    have hiB : i = B.length := by omega
    subst hiB
    have e1 : nI B.length ≤ nI B.length := nI_le (Nat.le_refl _) (by have := S.2.2.1; omega)
    refine ⟨xs, rfl, ⟨hc1, hx⟩, ?_⟩
    rw [s22_7]
    simp only [s22_8, s22_9 S.2.2.2.2.1, ex_gf_i S.1, List.getElem?_cons_zero, List.getElem?_cons_succ, Option.bind_some, s22_12, if_pos e1, s22_30, rowW_self R]
  | succ k ih =>
    intro i xs w R S H hc1 n1 n2 n3 hi hx
    have hBl : B.length < 2 ^ 20 := by have := S.2.2.1; omega
    have e1 : ¬ nI B.length ≤ nI i := nI_ge (by omega) (by omega)
    have cc := r_cellB (X := X) (i := i) S H (by omega)
    have R1 := rowW_is (ys := xs.set i (nI (B.getD i 0))) (n2 := i + 1) R List.length_set (by rw [List.length_set]; omega)
    have S1 : isRow (rowW w g (g + 1) (xs.set i (nI (B.getD i 0))) (i + 1)) h c us B.length := ⟨(rowW_o hne n3).trans S.1, (rowW_o n1 n2).trans S.2.1, S.2.2⟩
    obtain ⟨ys, y1, y2, y3⟩ := ih (i + 1) _ _ R1 S1 H (by rw [List.length_set]; exact hc1) n1 n2 n3 (by omega) (by
      intro j hj
      rw [set_get (by omega)]
      split
      next q => rw [q]
      next q => exact hx j (by omega))
    refine ⟨ys, by rw [y1, List.length_set], y2, ?_⟩
    rw [s22_7]
    simp only [s22_8, s22_9 S.2.2.2.2.1, ex_gf_i S.1, List.getElem?_cons_zero, List.getElem?_cons_succ, Option.bind_some, s22_12, if_neg e1, s22_15, s22_16, s22_17, s22_18 (ex_rc_o S.1 S.2.2.2.2.1 (by decide)), cc, Option.toList_some, List.cons_append, List.nil_append, s22_21 (ex_rc_o R.1 R.2.2.2.2.1 (by decide)), r_append R (show i < xs.length by omega), Option.toList_none, s22_24, nI_1, s22_27]
    rw [y3, rowW_w R.ne]
theorem r_copy {w : ex_W} {n : Nat} {xs : List Int32} (R : isRow w g (g + 1) xs n) (S : isRow w h c us B.length) (H : holds us B) (hB : ∀ j, B.getD j 0 < 256) (hl : B.length ≤ xs.length) (hne : h ≠ g) (n1 : c ≠ g) (n2 : c ≠ g + 1) (n3 : h ≠ g + 1) : ∃ ys : List Int32, ys.length = xs.length ∧ holds ys B ∧ ex_call X 22 [.ref g, .ref h] w = some (none, rowW w g (g + 1) ys B.length) := by
  have R0 := rowW_is (ys := xs) (n2 := 0) R rfl (Nat.zero_le _)
  have S0 : isRow (rowW w g (g + 1) xs 0) h c us B.length := ⟨(rowW_o hne n3).trans S.1, (rowW_o n1 n2).trans S.2.1, S.2.2⟩
  obtain ⟨ys, y1, y2, y3⟩ := r_copyLoop (X := X) S.2.2.2.1 hB hne B.length 0 xs _ R0 S0 H hl n1 n2 n3 (by omega) (fun j hj => by omega)
  refine ⟨ys, y1, y2, ?_⟩
  rw [rowW_w R.ne] at y3
  rw [← y3]
  show ex_go X 22 0 [(0, .ref g), (1, .ref h)] [] w = _
  have e : w.set g (.inl (1, [.ref (g + 1), .int 0])) = rowW w g (g + 1) xs 0 := by
    unfold rowW
    rw [set_id R.2.1]
    rfl
  have hs : ([Value.ref (g + 1), Value.int (nI n)] : List Value).set 1 (.int 0) = [.ref (g + 1), .int 0] := rfl
  simp only [s22_0, s22_1, s22_2 R.2.2.2.2.1, ex_pf_i R.1 (k := 1) (by simp), hs, e, Option.bind_some, s22_5, s22_6, nI_0]
end COPY
