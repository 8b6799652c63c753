/-! type of both; what both tell of a byte, a character, the sizes -/
/-- byte i of a word -/
def chB (a : Int32) (i : Nat) : Int32 := (a >>> (((8 : Int32) * nI i) &&& 31)) &&& 255
def okCh (c : Int32) : Prop := c = 10 ∨ (¬ c < 32 ∧ c ≤ 126)
def allCh (a : Int32) : Nat → Nat → Prop
  | _, 0 => True
  | i, m + 1 => okCh (chB a i) ∧ allCh a (i + 1) m
section TYPE
variable {X : Option (List Int32)} {w : ex_W} {n : Nat} {xs : List Int32} {a b : Int32}
theorem x_chars : ∀ (m i : Nat), i + m < 1000 → (allCh a i m → ex_go X 6 2 [(0, .int a), (1, .int (nI (i + m))), (2, .int (nI i))] [] w = some (some (.int 1), w)) ∧ (¬ allCh a i m → ex_go X 6 2 [(0, .int a), (1, .int (nI (i + m))), (2, .int (nI i))] [] w = some (some (.int 0), w)) := by
  intro m
  induction m with
  | zero =>
    intro i hi
    have e : nI (i + 0) ≤ nI i := nI_le (Nat.le_refl _) (by omega)
    refine ⟨fun _ => ?_, fun h => absurd trivial h⟩
    simp only [s6_2, s6_3, s6_4, if_pos e, s6_44]
    exact s6_45 (Or.inr rfl)
  | succ m ih =>
    intro i hi
    have e : ¬ nI (i + (m + 1)) ≤ nI i := nI_ge (by omega) (by omega)
    have step : okCh (chB a i) → ex_go X 6 2 [(0, .int a), (1, .int (nI (i + (m + 1)))), (2, .int (nI i))] [] w = ex_go X 6 2 [(0, .int a), (1, .int (nI (i + 1 + m))), (2, .int (nI (i + 1)))] [] w := by
      intro h
      rw [s6_2]
      simp only [s6_3, s6_4, if_neg e, s6_7, s6_8, s6_10, s6_11, s6_12, s6_13, s6_16, s6_17, s6_18, s6_19, s6_21]
      rw [show i + (m + 1) = i + 1 + m by omega]
      have h : okCh ((a >>> (((8 : Int32) * nI i) &&& 31)) &&& 255) := h
      rcases h with h | ⟨h1, h2⟩
      · simp only [if_pos h, s6_38, s6_41, nI_1]
      · by_cases c : ((a >>> (((8 : Int32) * nI i) &&& 31)) &&& 255) = 10
        · simp only [if_pos c, s6_38, s6_41, nI_1]
        · simp only [if_neg c, s6_24, s6_25, s6_27, if_neg h1, s6_30, s6_31, s6_33, if_pos h2, s6_38, s6_41, nI_1]
    refine ⟨fun h => ?_, fun h => ?_⟩
    · rw [step h.1]
      exact (ih (i + 1) (by omega)).1 h.2
    · by_cases c : okCh (chB a i)
      · rw [step c]
        exact (ih (i + 1) (by omega)).2 (fun z => h ⟨c, z⟩)
      · have c : ¬ okCh ((a >>> (((8 : Int32) * nI i) &&& 31)) &&& 255) := c
        have c1 : ¬ ((a >>> (((8 : Int32) * nI i) &&& 31)) &&& 255) = 10 := fun z => c (Or.inl z)
        rw [s6_2]
        simp only [s6_3, s6_4, if_neg e, s6_7, s6_8, s6_10, s6_11, s6_12, s6_13, s6_16, s6_17, s6_18, s6_19, s6_21, if_neg c1, s6_24, s6_25, s6_27]
        by_cases c2 : ((a >>> (((8 : Int32) * nI i) &&& 31)) &&& 255) < 32
        · simp only [if_pos c2, s6_36]
          exact s6_37 (Or.inl rfl)
        · have c3 : ¬ ((a >>> (((8 : Int32) * nI i) &&& 31)) &&& 255) ≤ 126 := fun z => c (Or.inr ⟨c2, z⟩)
          simp only [if_neg c2, s6_30, s6_31, s6_33, if_neg c3, s6_36]
          exact s6_37 (Or.inl rfl)
theorem x_charsC {k : Nat} (hk : k < 1000) : (allCh a 0 k → ex_call X 6 [.int a, .int (nI k)] w = some (some (.int 1), w)) ∧ (¬ allCh a 0 k → ex_call X 6 [.int a, .int (nI k)] w = some (some (.int 0), w)) := by
  have e : ex_call X 6 [.int a, .int (nI k)] w = ex_go X 6 2 [(0, .int a), (1, .int (nI (0 + k))), (2, .int (nI 0))] [] w := by
    show ex_go X 6 0 [(0, .int a), (1, .int (nI k))] [] w = _
    simp only [s6_0, s6_1, Nat.zero_add, nI_0]
  rw [e]
  exact x_chars k 0 (by omega)
theorem x_typeYes {k : Nat} {v0 : Value} {fs : List Value} (h0 : w[0]? = some (.inl (0, v0 :: .ref 3 :: fs))) (R : isRow w 3 4 xs n) (h1 : 1 ≤ k) (h4 : k ≤ 4) (hc : n + k ≤ 200) (hx : xs.length = 200) (ha : allCh a 0 k) : ex_call X 5 [.ref 0, .int a, .int (nI k)] w = some (some (.int 1), rowW w 3 4 (putL xs n (lowB a k)) (n + k)) := by
  have z1 : (0 : Nat) < 1000 := by decide
  have z2 : (3 : Nat) < 1000 := by decide
  have e1 : ¬ nI k < 1 := nI_nlt (b := 1) h1 (by omega)
  have e2 : ¬ (4 : Int32) < nI k := nI_nlt (a := 4) h4 (by decide)
  have e3 : ¬ (200 : Int32) < nI (n + k) := nI_nlt (a := 200) hc (by decide)
  have e4 : ¬ (1 : Int32) = 0 := by decide
  have hL := r_low (X := X) (word := a) (k := k) R (by omega) (by omega)
  have hC := (x_charsC (X := X) (w := w) (a := a) (k := k) (by omega)).1 ha
  show ex_go X 5 0 [(0, .ref 0), (1, .int a), (2, .int (nI k))] [] w = _
  simp only [s5_0, s5_1, s5_2, if_neg e1, s5_5, s5_6, s5_7, if_neg e2, s5_10, s5_11 z1, s5_14 z2, s5_17, s5_18, s5_19, s5_22, nI_add, if_neg e3, s5_25, s5_26, s5_27, hC, Option.toList_some, List.cons_append, List.nil_append, s5_30, if_pos e4, s5_35, s5_36 z1, s5_39, s5_40, s5_41 (ex_rc_o R.1 z2 (by decide)), ex_gf_i h0, ex_gf_i R.1, List.getElem?_cons_zero, List.getElem?_cons_succ, Option.bind_some, hL, Option.toList_none, s5_44, s5_45 (Or.inr rfl)]
theorem x_typeNo {v0 : Value} {fs : List Value} (h0 : w[0]? = some (.inl (0, v0 :: .ref 3 :: fs))) (R : isRow w 3 4 xs n) (hb : ¬ (fitsIn n 200 b ∧ ∀ k : Nat, b = nI k → k ≤ 4 → allCh a 0 k)) : ex_call X 5 [.ref 0, .int a, .int b] w = some (some (.int 0), w) := by
  have z1 : (0 : Nat) < 1000 := by decide
  have z2 : (3 : Nat) < 1000 := by decide
  have e4 : ¬ ¬ (0 : Int32) = 0 := by decide
  show ex_go X 5 0 [(0, .ref 0), (1, .int a), (2, .int b)] [] w = _
  simp only [s5_0, s5_1, s5_2]
  by_cases c1 : b < 1
  · simp only [if_pos c1, s5_33, s5_34 (Or.inl rfl)]
  · simp only [if_neg c1, s5_5, s5_6, s5_7]
    by_cases c2 : (4 : Int32) < b
    · simp only [if_pos c2, s5_33, s5_34 (Or.inl rfl)]
    · simp only [if_neg c2, s5_10, s5_11 z1, s5_14 z2, s5_17, s5_18, s5_19, s5_22, ex_gf_i h0, ex_gf_i R.1, List.getElem?_cons_zero, List.getElem?_cons_succ, Option.bind_some]
      by_cases c3 : (200 : Int32) < nI n + b
      · simp only [if_pos c3, s5_33, s5_34 (Or.inl rfl)]
      · obtain ⟨k, k1, k4, rfl⟩ := four c1 c2
        have c4 : ¬ allCh a 0 k := fun z => hb ⟨⟨c1, c2, c3⟩, fun j hj hj4 => by
          rw [nI_eq (by omega) (by omega)] at hj
          subst hj
          exact z⟩
        have hC := (x_charsC (X := X) (w := w) (a := a) (k := k) (by omega)).2 c4
        simp only [if_neg c3, s5_25, s5_26, s5_27, hC, Option.bind_some, Option.toList_some, List.cons_append, List.nil_append, s5_30, not_true_eq_false, if_false, s5_33, s5_34 (Or.inl rfl)]
theorem y_chars {k : Nat} (hk : k < 1000) : ∀ (m i : Nat), i + m = k → (allCh a i m → ex_go X 134 26 [(0, .ref 32), (1, .int a), (2, .int (nI k)), (3, .int (nI i))] [] w = ex_go X 134 72 [(0, .ref 32), (1, .int a), (2, .int (nI k))] [] w) ∧ (¬ allCh a i m → ex_go X 134 26 [(0, .ref 32), (1, .int a), (2, .int (nI k)), (3, .int (nI i))] [] w = some (some (.int 0), w)) := by
  intro m
  induction m with
  | zero =>
    intro i hi
    have e : nI k ≤ nI i := nI_le (by omega) (by omega)
    refine ⟨fun _ => ?_, fun h => absurd trivial h⟩
    simp only [s134_26, s134_27, s134_28, if_pos e]
  | succ m ih =>
    intro i hi
    have e : ¬ nI k ≤ nI i := nI_ge (by omega) (by omega)
    have step : okCh (chB a i) → ex_go X 134 26 [(0, .ref 32), (1, .int a), (2, .int (nI k)), (3, .int (nI i))] [] w = ex_go X 134 26 [(0, .ref 32), (1, .int a), (2, .int (nI k)), (3, .int (nI (i + 1)))] [] w := by
      intro h
      rw [s134_26]
      simp only [s134_27, s134_28, if_neg e, s134_31, s134_32, s134_34, s134_35, s134_36, s134_37, s134_40, s134_41, s134_43, s134_45, s134_47]
      have h : okCh ((a >>> (((8 : Int32) * nI i) &&& 31)) &&& 255) := h
      rcases h with h | ⟨h1, h2⟩
      · simp only [if_pos h, s134_66, s134_69, nI_1]
      · by_cases c : ((a >>> (((8 : Int32) * nI i) &&& 31)) &&& 255) = 10
        · simp only [if_pos c, s134_66, s134_69, nI_1]
        · simp only [if_neg c, s134_50, s134_52, s134_54, if_neg h1, s134_57, s134_59, s134_61, if_pos h2, s134_66, s134_69, nI_1]
    refine ⟨fun h => ?_, fun h => ?_⟩
    · rw [step h.1]
      exact (ih (i + 1) (by omega)).1 h.2
    · by_cases c : okCh (chB a i)
      · rw [step c]
        exact (ih (i + 1) (by omega)).2 (fun z => h ⟨c, z⟩)
      · have c : ¬ okCh ((a >>> (((8 : Int32) * nI i) &&& 31)) &&& 255) := c
        have c1 : ¬ ((a >>> (((8 : Int32) * nI i) &&& 31)) &&& 255) = 10 := fun z => c (Or.inl z)
        rw [s134_26]
        simp only [s134_27, s134_28, if_neg e, s134_31, s134_32, s134_34, s134_35, s134_36, s134_37, s134_40, s134_41, s134_43, s134_45, s134_47, if_neg c1, s134_50, s134_52, s134_54]
        by_cases c2 : ((a >>> (((8 : Int32) * nI i) &&& 31)) &&& 255) < 32
        · simp only [if_pos c2, s134_64]
          exact s134_65 (Or.inl rfl)
        · have c3 : ¬ ((a >>> (((8 : Int32) * nI i) &&& 31)) &&& 255) ≤ 126 := fun z => c (Or.inr ⟨c2, z⟩)
          simp only [if_neg c2, s134_57, s134_59, s134_61, if_neg c3, s134_64]
          exact s134_65 (Or.inl rfl)
theorem y_typeLoop {v : Int64} : ∀ (k n : Nat) (xs : List Int32) (m : Nat → Int32) (w : ex_W), w[32]? = some (.inl (8, mo m v)) → w[36]? = some (.inr (0, xs)) → xs.length = 200 → m 7 = nI n → n + k ≤ 200 → ex_go X 134 76 [(0, .ref 32), (1, .int a), (3, .int (nI k - 1))] [] w = some (some (.int 1), mW w 36 (putL xs n (lowB a k)) (upd m 7 (nI (n + k))) v) := by
  intro k
  induction k with
  | zero =>
    intro n xs m w hM hA hx hm hk
    have e : nI 0 - 1 < 0 := by decide
    rw [s134_76]
    simp only [s134_77, if_pos e, s134_115, s134_116 (Or.inr rfl)]
    have eu : upd m 7 (nI (n + 0)) = m := by
      funext j
      unfold upd
      split
      next hj => rw [hj, hm]; rfl
      next => rfl
    rw [eu, show putL xs n (lowB a 0) = xs from rfl, mW_self hA hM]
  | succ k ih =>
    intro n xs m w hM hA hx hm hk
    have z1 : (32 : Nat) < 1000 := by decide
    have z2 : (36 : Nat) < 1000 := by decide
    rw [nI_pred, s134_76]
    have e : ¬ nI k < 0 := nI_pos (by omega)
    have hM1 : (w.set 36 (.inr (0, xs.set n ((a >>> (((8 : Int32) * nI k) &&& 31)) &&& 255))))[32]? = some (.inl (8, mo m v)) := ex_set_o (by decide) hM
    have e2 : nI k + -1 = nI k - 1 := by rw [Int32.sub_eq_add_neg]
    simp only [s134_77, if_neg e, s134_80, s134_81 z1, s134_84, s134_85 z1, s134_88, s134_89, s134_91, s134_92, s134_93, s134_94, s134_97, s134_98 z2, ex_gf_i hM, mo_6, mo_7, Option.bind_some, hm, ex_as_i hA (show n < xs.length by omega) (by omega), s134_99, s134_100, s134_101 z1, ex_gf_i hM1, s134_104, s134_105, s134_106 z1, ex_pf_i hM1 (k := 7) (by rw [mo_len]; decide), mo_s7, nI_1, s134_109, s134_112, e2]
    have hW : (w.set 36 (Sum.inr (0, xs.set n ((a >>> (((8 : Int32) * nI k) &&& 31)) &&& 255)))).set 32 (Sum.inl (8, mo (upd m 7 (nI (n + 1))) v)) = mW w 36 (xs.set n ((a >>> (((8 : Int32) * nI k) &&& 31)) &&& 255)) (upd m 7 (nI (n + 1))) v := rfl
    rw [hW, ih (n + 1) _ (upd m 7 (nI (n + 1))) _ (mW_m (by decide) hM) (mW_a (by decide) hA) (by rw [List.length_set]; exact hx) pk_us (by omega), mW_w (by decide)]
    have eu : upd (upd m 7 (nI (n + 1))) 7 (nI (n + 1 + k)) = upd m 7 (nI (n + (k + 1))) := by
      funext j
      unfold upd
      rw [show n + 1 + k = n + (k + 1) by omega]
      split <;> rfl
    rw [eu]
    rfl
theorem y_typeYes {v : Int64} {m : Nat → Int32} {k : Nat} (hM : w[32]? = some (.inl (8, mo m v))) (hA : w[36]? = some (.inr (0, xs))) (hx : xs.length = 200) (hm : m 7 = nI n) (h1 : 1 ≤ k) (h4 : k ≤ 4) (hc : n + k ≤ 200) (ha : allCh a 0 k) : ex_call X 134 [.ref 32, .int a, .int (nI k)] w = some (some (.int 1), mW w 36 (putL xs n (lowB a k)) (upd m 7 (nI (n + k))) v) := by
  have z1 : (32 : Nat) < 1000 := by decide
  have e1 : ¬ nI k < 1 := nI_nlt (b := 1) h1 (by omega)
  have e2 : ¬ (4 : Int32) < nI k := nI_nlt (a := 4) h4 (by decide)
  have e3 : nI (n + k) ≤ 200 := nI_le (b := 200) hc (by decide)
  have hy := (y_chars (X := X) (w := w) (a := a) (k := k) (by omega) k 0 (by omega)).1 ha
  rw [nI_0] at hy
  show ex_go X 134 0 [(0, .ref 32), (1, .int a), (2, .int (nI k))] [] w = _
  simp only [s134_0, s134_1, s134_2, if_neg e1, s134_5, s134_6, s134_7, if_neg e2, s134_10, s134_11 z1, s134_14, s134_15, s134_16, s134_19, ex_gf_i hM, mo_7, Option.bind_some, hm, nI_add, if_pos e3, s134_24, s134_25, hy, s134_72, s134_73, s134_74, s134_75]
  exact y_typeLoop k n xs m w hM hA hx hm hc
theorem y_typeNo {v : Int64} {m : Nat → Int32} (hM : w[32]? = some (.inl (8, mo m v))) (hm : m 7 = nI n) (hb : ¬ (fitsIn n 200 b ∧ ∀ k : Nat, b = nI k → k ≤ 4 → allCh a 0 k)) : ex_call X 134 [.ref 32, .int a, .int b] w = some (some (.int 0), w) := by
  have z1 : (32 : Nat) < 1000 := by decide
  show ex_go X 134 0 [(0, .ref 32), (1, .int a), (2, .int b)] [] w = _
  simp only [s134_0, s134_1, s134_2]
  by_cases c1 : b < 1
  · simp only [if_pos c1, s134_22, s134_23 (Or.inl rfl)]
  · simp only [if_neg c1, s134_5, s134_6, s134_7]
    by_cases c2 : (4 : Int32) < b
    · simp only [if_pos c2, s134_22, s134_23 (Or.inl rfl)]
    · simp only [if_neg c2, s134_10, s134_11 z1, s134_14, s134_15, s134_16, s134_19, ex_gf_i hM, mo_7, Option.bind_some, hm]
      by_cases c3 : (200 : Int32) < nI n + b
      · have c3' : ¬ nI n + b ≤ 200 := by
          rw [Int32.le_iff_toInt_le]
          rw [Int32.lt_iff_toInt_lt] at c3
          omega
        simp only [if_neg c3', s134_22, s134_23 (Or.inl rfl)]
      · have c3' : nI n + b ≤ 200 := by
          rw [Int32.le_iff_toInt_le]
          rw [Int32.lt_iff_toInt_lt] at c3
          omega
        obtain ⟨k, k1, k4, rfl⟩ := four c1 c2
        have c4 : ¬ allCh a 0 k := fun z => hb ⟨⟨c1, c2, c3⟩, fun j hj hj4 => by
          rw [nI_eq (by omega) (by omega)] at hj
          subst hj
          exact z⟩
        have hy := (y_chars (X := X) (w := w) (a := a) (k := k) (by omega) k 0 (by omega)).2 c4
        rw [nI_0] at hy
        simp only [if_pos c3', s134_24, s134_25, hy]
end TYPE
theorem rowAt_congr {xs ys : List Int32} {n : Nat} {d i : Int32} (h : ∀ j, j < n → xs.getD j 0 = ys.getD j 0) (hn : n < 2 ^ 31) : rowAt xs n d i = rowAt ys n d i := by
  unfold rowAt
  by_cases c1 : i < 0
  · rw [if_pos c1, if_pos c1]
  · rw [if_neg c1, if_neg c1]
    by_cases c2 : i < nI n
    · rw [if_pos c2, if_pos c2]
      obtain ⟨j, hj, rfl⟩ := nI_of c1
      have hj2 : j < n := by
        rcases Nat.lt_or_ge j n with z | z
        · exact z
        · exact absurd c2 (nI_nlt z hj)
      rw [nI_clamp hj]
      exact h j hj2
    · rw [if_neg c2, if_neg c2]
section TELL
variable {X : Option (List Int32)} {w : ex_W} {n : Nat} {xs : List Int32} {i : Int32}
theorem x_byteAt {B q a : Nat} {v0 v1 v2 v3 v5 : Value} {c1 c2 : Value} (h0 : w[0]? = some (.inl (0, [v0, v1, v2, v3, .ref B, v5]))) (hB : w[B]? = some (.inl (2, [.ref q, c1, c2]))) (hb : B < 1000) (R : isRow w q a xs n) : ex_call X 9 [.ref 0, .int i] w = some (some (.int (rowAt xs n (-1) i)), w) := by
  have z1 : (0 : Nat) < 1000 := by decide
  show ex_go X 9 0 [(0, .ref 0), (1, .int i)] [] w = _
  simp only [s9_0, s9_1 z1, s9_4 hb, s9_7, s9_8 (ex_rc_o R.1 R.2.2.2.2.1 (by decide)), ex_gf_i h0, ex_gf_i hB, List.getElem?_cons_zero, List.getElem?_cons_succ, Option.bind_some, r_cellOrNone R, Option.toList_some, List.cons_append, List.nil_append, s9_11]
theorem x_size {B q a : Nat} {v0 v1 v2 v3 v5 : Value} {c1 c2 : Value} (h0 : w[0]? = some (.inl (0, [v0, v1, v2, v3, .ref B, v5]))) (hB : w[B]? = some (.inl (2, [.ref q, c1, c2]))) (hb : B < 1000) (R : isRow w q a xs n) : ex_call X 8 [.ref 0] w = some (some (.int (nI n)), w) := by
  have z1 : (0 : Nat) < 1000 := by decide
  show ex_go X 8 0 [(0, .ref 0)] [] w = _
  simp only [s8_0, s8_1 z1, s8_4 hb, s8_7 R.2.2.2.2.1, ex_gf_i h0, ex_gf_i hB, ex_gf_i R.1, List.getElem?_cons_zero, List.getElem?_cons_succ, Option.bind_some, s8_10]
theorem x_at {v0 v1 v2 v4 v5 : Value} {c1 c2 : Value} (h0 : w[0]? = some (.inl (0, [v0, v1, v2, .ref 15, v4, v5]))) (hB : w[15]? = some (.inl (6, [.ref 16, c1, c2]))) (R : isRow w 16 17 xs n) : ex_call X 11 [.ref 0, .int i] w = some (some (.int (rowAt xs n (-1) i)), w) := by
  have z1 : (0 : Nat) < 1000 := by decide
  have z2 : (15 : Nat) < 1000 := by decide
  show ex_go X 11 0 [(0, .ref 0), (1, .int i)] [] w = _
  simp only [s11_0, s11_1 z1, s11_4 z2, s11_7, s11_8 (ex_rc_o R.1 R.2.2.2.2.1 (by decide)), ex_gf_i h0, ex_gf_i hB, List.getElem?_cons_zero, List.getElem?_cons_succ, Option.bind_some, r_cellOrNone R, Option.toList_some, List.cons_append, List.nil_append, s11_11]
theorem x_length {v0 v1 v2 v4 v5 : Value} {c1 c2 : Value} (h0 : w[0]? = some (.inl (0, [v0, v1, v2, .ref 15, v4, v5]))) (hB : w[15]? = some (.inl (6, [.ref 16, c1, c2]))) (R : isRow w 16 17 xs n) : ex_call X 10 [.ref 0] w = some (some (.int (nI n)), w) := by
  have z1 : (0 : Nat) < 1000 := by decide
  have z2 : (15 : Nat) < 1000 := by decide
  show ex_go X 10 0 [(0, .ref 0)] [] w = _
  simp only [s10_0, s10_1 z1, s10_4 z2, s10_7 R.2.2.2.2.1, ex_gf_i h0, ex_gf_i hB, ex_gf_i R.1, List.getElem?_cons_zero, List.getElem?_cons_succ, Option.bind_some, s10_10]
theorem y_byteAt {v : Int64} {m : Nat → Int32} (hM : w[32]? = some (.inl (8, mo m v))) (hA : w[33]? = some (.inr (0, xs))) (hm : m 1 = nI n) (hn : n ≤ xs.length) (hx : xs.length < 2 ^ 20) : ex_call X 161 [.ref 32, .int i] w = some (some (.int (rowAt xs n (-1) i)), w) := by
  have z1 : (32 : Nat) < 1000 := by decide
  have z2 : (33 : Nat) < 1000 := by decide
  show ex_go X 161 0 [(0, .ref 32), (1, .int i)] [] w = _
  unfold rowAt
  simp only [s161_0, s161_1, s161_4, s161_5, s161_6 z1, ex_gf_i hM, mo_1, Option.bind_some, hm, s161_9, s161_12, s161_13 z1, mo_0, s161_16, s161_17 z2, s161_18, s161_21, s161_22]
  by_cases c1 : i < 0
  · rw [if_pos c1, if_pos c1]
  · rw [if_neg c1, if_neg c1]
    obtain ⟨j, hj, rfl⟩ := nI_of c1
    by_cases c2 : nI j < nI n
    · rw [if_pos c2, if_neg (fun z => by
        rw [nI_leI (by omega) hj] at z
        rw [nI_ltI hj (by omega)] at c2
        omega)]
      rw [nI_ltI hj (by omega)] at c2
      rw [ex_al_i hA (by omega) (by omega), nI_clamp hj]
      rfl
    · rw [if_neg c2, if_pos (by
        rw [nI_ltI hj (by omega)] at c2
        rw [nI_leI (by omega) hj]
        omega)]
theorem y_at {v : Int64} {m : Nat → Int32} (hM : w[32]? = some (.inl (8, mo m v))) (hA : w[37]? = some (.inr (0, xs))) (hm : m 9 = nI n) (hn : n ≤ xs.length) (hx : xs.length < 2 ^ 20) : ex_call X 163 [.ref 32, .int i] w = some (some (.int (rowAt xs n (-1) i)), w) := by
  have z1 : (32 : Nat) < 1000 := by decide
  have z2 : (37 : Nat) < 1000 := by decide
  show ex_go X 163 0 [(0, .ref 32), (1, .int i)] [] w = _
  unfold rowAt
  simp only [s163_0, s163_1, s163_4, s163_5, s163_6 z1, ex_gf_i hM, mo_9, Option.bind_some, hm, s163_9, s163_12, s163_13 z1, mo_8, s163_16, s163_17 z2, s163_18, s163_21, s163_22]
  by_cases c1 : i < 0
  · rw [if_pos c1, if_pos c1]
  · rw [if_neg c1, if_neg c1]
    obtain ⟨j, hj, rfl⟩ := nI_of c1
    by_cases c2 : nI j < nI n
    · rw [if_pos c2, if_neg (fun z => by
        rw [nI_leI (by omega) hj] at z
        rw [nI_ltI hj (by omega)] at c2
        omega)]
      rw [nI_ltI hj (by omega)] at c2
      rw [ex_al_i hA (by omega) (by omega), nI_clamp hj]
      rfl
    · rw [if_neg c2, if_pos (by
        rw [nI_ltI hj (by omega)] at c2
        rw [nI_leI (by omega) hj]
        omega)]
theorem y_size {v : Int64} {m : Nat → Int32} (hM : w[32]? = some (.inl (8, mo m v))) : ex_call X 160 [.ref 32] w = some (some (.int (m 1)), w) := by
  have z1 : (32 : Nat) < 1000 := by decide
  show ex_go X 160 0 [(0, .ref 32)] [] w = _
  simp only [s160_0, s160_1 z1, ex_gf_i hM, mo_1, Option.bind_some, s160_4]
theorem y_length {v : Int64} {m : Nat → Int32} (hM : w[32]? = some (.inl (8, mo m v))) : ex_call X 162 [.ref 32] w = some (some (.int (m 9)), w) := by
  have z1 : (32 : Nat) < 1000 := by decide
  show ex_go X 162 0 [(0, .ref 32)] [] w = _
  simp only [s162_0, s162_1 z1, ex_gf_i hM, mo_9, Option.bind_some, s162_4]
end TELL
