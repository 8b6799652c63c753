/-! the world's cells, read and written; the methods of a row -/
section EXW
variable {w : ex_W} {h a ci k n kd : Nat} {fs : List Value} {xs : List Int32} {v : Value} {x : Int32}
theorem ex_gf_i (hw : w[h]? = some (.inl (ci, fs))) : ex_gf w h ci k = fs[k]? := by unfold ex_gf; rw [hw]; exact if_pos rfl
theorem ex_pf_i (hw : w[h]? = some (.inl (ci, fs))) (hk : k < fs.length) : ex_pf w h ci k v = some (w.set h (.inl (ci, fs.set k v))) := by unfold ex_pf; rw [hw]; exact if_pos ⟨rfl, hk⟩
theorem ex_an_i (hw : w[a]? = some (.inr (kd, xs))) : ex_an w a = some (nI xs.length) := by unfold ex_an; rw [hw]; rfl
theorem ex_al_i (hw : w[a]? = some (.inr (kd, xs))) (hn : n < xs.length) (hx : xs.length < 2 ^ 31) : ex_al w a kd (nI n) = some (xs.getD n 0) := by
  unfold ex_al
  rw [hw]
  dsimp only
  rw [if_pos ⟨rfl, nI_pos (by omega)⟩, nI_clamp (by omega), List.getD_eq_getElem?_getD, List.getElem?_eq_getElem hn]
  rfl
theorem ex_as_i (hw : w[a]? = some (.inr (kd, xs))) (hn : n < xs.length) (hx : xs.length < 2 ^ 31) : ex_as w a kd (nI n) x = some (w.set a (.inr (kd, xs.set n x))) := by
  unfold ex_as
  rw [hw]
  dsimp only
  rw [nI_clamp (by omega), if_pos ⟨rfl, nI_pos (by omega), hn⟩]
theorem ex_rc_o (hw : w[h]? = some (.inl (ci, fs))) (hh : h < 1000) (hc : ci < 999) : ex_rc w h ci = true := by
  unfold ex_rc
  rw [if_neg (by omega), hw]
  dsimp only
  rw [decide_eq_true hh]
  simp
theorem ex_ne (hw : w[h]? = some (.inl (ci, fs))) (ha : w[a]? = some (.inr (kd, xs))) : a ≠ h := by
  intro e
  subst e
  rw [hw] at ha
  cases ha
theorem ex_set_o {i j : Nat} {c : ex_C} {d : ex_C} (h1 : i ≠ j) (h2 : w[j]? = some d) : (w.set i c)[j]? = some d := by rw [List.getElem?_set_ne h1]; exact h2
theorem ex_set_s {i : Nat} {c d : ex_C} (h2 : w[i]? = some d) : (w.set i c)[i]? = some c := by
  rw [List.getElem?_set_self (List.getElem?_eq_some_iff.mp h2).1]
end EXW
/-- a row at h: its cells xs stand at a, n of them are used -/
def isRow (w : ex_W) (h a : Nat) (xs : List Int32) (n : Nat) : Prop := w[h]? = some (.inl (1, [.ref a, .int (nI n)])) ∧ w[a]? = some (.inr (0, xs)) ∧ n ≤ xs.length ∧ xs.length < 2 ^ 20 ∧ h < 1000 ∧ a < 1000
def rowW (w : ex_W) (h a : Nat) (xs : List Int32) (n : Nat) : ex_W := (w.set a (.inr (0, xs))).set h (.inl (1, [.ref a, .int (nI n)]))
section ROWB
variable {w : ex_W} {h a n n2 : Nat} {xs ys : List Int32}
theorem isRow.ne (R : isRow w h a xs n) : a ≠ h := ex_ne R.1 R.2.1
theorem rowW_is (R : isRow w h a xs n) (hl : ys.length = xs.length) (hn : n2 ≤ ys.length) : isRow (rowW w h a ys n2) h a ys n2 := by
  have hne := R.ne
  refine ⟨?_, ?_, hn, by rw [hl]; exact R.2.2.2.1, R.2.2.2.2⟩
  · unfold rowW
    exact ex_set_s (ex_set_o hne R.1)
  · unfold rowW
    exact ex_set_o (Ne.symm hne) (ex_set_s R.2.1)
theorem rowW_o {j : Nat} (h1 : j ≠ h) (h2 : j ≠ a) : (rowW w h a xs n)[j]? = w[j]? := by
  unfold rowW
  rw [List.getElem?_set_ne (Ne.symm h1), List.getElem?_set_ne (Ne.symm h2)]
theorem rowW_len : (rowW w h a xs n).length = w.length := by unfold rowW; rw [List.length_set, List.length_set]
theorem rowW_w (hne : a ≠ h) : rowW (rowW w h a xs n) h a ys n2 = rowW w h a ys n2 := by
  unfold rowW
  rw [List.set_comm _ _ (Ne.symm hne), List.set_set, List.set_set]
theorem rowW_self (R : isRow w h a xs n) : rowW w h a xs n = w := by
  obtain ⟨h1, h2, -⟩ := R
  unfold rowW
  apply List.ext_getElem?
  intro i
  rw [List.getElem?_set]
  by_cases e : h = i
  · subst e
    rw [if_pos rfl, List.length_set, if_pos (List.getElem?_eq_some_iff.mp h1).1, h1]
  · rw [if_neg e, List.getElem?_set]
    by_cases e2 : a = i
    · subst e2
      rw [if_pos rfl, if_pos (List.getElem?_eq_some_iff.mp h2).1, h2]
    · rw [if_neg e2]
end ROWB
/-- a list laid into another from a place on -/
def putL (xs : List Int32) (n : Nat) : List Int32 → List Int32
  | [] => xs
  | v :: t => putL (xs.set n v) (n + 1) t
theorem putL_len : ∀ (l xs : List Int32) (n : Nat), (putL xs n l).length = xs.length
  | [], _, _ => rfl
  | v :: t, xs, n => by rw [putL, putL_len t]; exact List.length_set
theorem putL_app : ∀ (l m xs : List Int32) (n : Nat), putL xs n (l ++ m) = putL (putL xs n l) (n + l.length) m
  | [], m, xs, n => rfl
  | v :: t, m, xs, n => by
    show putL (xs.set n v) (n + 1) (t ++ m) = putL (putL (xs.set n v) (n + 1) t) (n + (t.length + 1)) m
    rw [putL_app t m, show n + 1 + t.length = n + (t.length + 1) by omega]
/-- a cell of a row's used part -/
def rowAt (xs : List Int32) (n : Nat) (d i : Int32) : Int32 := if i < 0 then d else if i < nI n then xs.getD i.toNatClampNeg 0 else d
/-- the lowest bytes of a word, the highest of them first -/
def lowB (word : Int32) : Nat → List Int32
  | 0 => []
  | k + 1 => ((word >>> (((8 : Int32) * nI k) &&& 31)) &&& 255) :: lowB word k
section ROW
variable {X : Option (List Int32)} {w : ex_W} {h a n : Nat} {xs : List Int32} {v i : Int32}
theorem r_append (R : isRow w h a xs n) (hn : n < xs.length) : ex_call X 17 [.ref h, .int v] w = some (none, rowW w h a (xs.set n v) (n + 1)) := by
  obtain ⟨hw, ha, hle, hx, h1, h2⟩ := R
  have hne := ex_ne hw ha
  have hw1 := ex_set_o (c := .inr (0, xs.set n v)) hne hw
  show ex_go X 17 0 [(0, .ref h), (1, .int v)] [] w = _
  simp only [s17_0, s17_1 h1, s17_4, s17_5 h1, s17_8 h2, s17_9, s17_12, s17_13 h1, s17_16, s17_17 h1, s17_20, s17_21 h2, s17_22, s17_23, s17_24 h1, s17_27, s17_28, s17_29 h1, s17_32, ex_gf_i hw, ex_gf_i hw1, ex_an_i ha, ex_as_i ha hn (by omega), ex_pf_i hw1 (k := 1) (by simp), List.getElem?_cons_zero, List.getElem?_cons_succ, Option.bind_some]
  rw [if_neg (nI_ge hn (by omega)), nI_1]
  rfl
theorem r_appendFull (R : isRow w h a xs n) (hn : n = xs.length) : ex_call X 17 [.ref h, .int v] w = some (none, w) := by
  obtain ⟨hw, ha, hle, hx, h1, h2⟩ := R
  show ex_go X 17 0 [(0, .ref h), (1, .int v)] [] w = _
  simp only [s17_0, s17_1 h1, s17_4, s17_5 h1, s17_8 h2, s17_9, s17_32, ex_gf_i hw, ex_an_i ha, List.getElem?_cons_zero, List.getElem?_cons_succ, Option.bind_some]
  rw [if_pos (nI_le (by omega) (by omega))]
theorem r_cell (R : isRow w h a xs n) : ex_call X 18 [.ref h, .int i] w = some (some (.int (rowAt xs n 0 i)), w) := by
  obtain ⟨hw, ha, hle, hx, h1, h2⟩ := R
  show ex_go X 18 0 [(0, .ref h), (1, .int i)] [] w = _
  simp only [s18_0, s18_1, s18_4, s18_5, s18_6 h1, s18_9, s18_12, s18_13, s18_16, s18_17 h1, s18_20, s18_21 h2, s18_22, ex_gf_i hw, List.getElem?_cons_zero, List.getElem?_cons_succ, Option.bind_some]
  unfold rowAt
  by_cases c1 : i < 0
  · rw [if_pos c1, if_pos c1]
  · rw [if_neg c1, if_neg c1]
    by_cases c2 : i < nI n
    · rw [if_pos c2, if_pos c2]
      obtain ⟨j, hj, rfl⟩ := nI_of c1
      have hj2 : j < n := by
        rcases Nat.lt_or_ge j n with z | z
        · exact z
        · exact absurd c2 (nI_nlt z hj)
      rw [ex_al_i ha (by omega) (by omega), nI_clamp hj]
      rfl
    · rw [if_neg c2, if_neg c2]
theorem r_cellOrNone (R : isRow w h a xs n) : ex_call X 23 [.ref h, .int i] w = some (some (.int (rowAt xs n (-1) i)), w) := by
  obtain ⟨hw, ha, hle, hx, h1, h2⟩ := R
  show ex_go X 23 0 [(0, .ref h), (1, .int i)] [] w = _
  simp only [s23_0, s23_1, s23_4, s23_5, s23_6 h1, s23_9, s23_12, s23_13, s23_16, s23_17 h1, s23_20, s23_21 h2, s23_22, ex_gf_i hw, List.getElem?_cons_zero, List.getElem?_cons_succ, Option.bind_some]
  unfold rowAt
  by_cases c1 : i < 0
  · rw [if_pos c1, if_pos c1]
  · rw [if_neg c1, if_neg c1]
    by_cases c2 : i < nI n
    · rw [if_pos c2, if_pos c2]
      obtain ⟨j, hj, rfl⟩ := nI_of c1
      have hj2 : j < n := by
        rcases Nat.lt_or_ge j n with z | z
        · exact z
        · exact absurd c2 (nI_nlt z hj)
      rw [ex_al_i ha (by omega) (by omega), nI_clamp hj]
      rfl
    · rw [if_neg c2, if_neg c2]
theorem r_empty (R : isRow w h a xs n) : ex_call X 16 [.ref h] w = some (none, rowW w h a xs 0) := by
  have R0 := R
  obtain ⟨hw, ha, hle, hx, h1, h2⟩ := R
  show ex_go X 16 0 [(0, .ref h)] [] w = _
  simp only [s16_0, s16_1, s16_2 h1, s16_5, ex_pf_i hw (k := 1) (by simp), Option.bind_some]
  have e : rowW w h a xs 0 = rowW (rowW w h a xs n) h a xs 0 := (rowW_w R0.ne).symm
  rw [e, rowW_self R0]
  unfold rowW
  have e2 : w.set a (.inr (0, xs)) = w := by
    apply List.ext_getElem?
    intro i
    rw [List.getElem?_set]
    by_cases e2 : a = i
    · subst e2
      rw [if_pos rfl, if_pos (List.getElem?_eq_some_iff.mp ha).1, ha]
    · rw [if_neg e2]
  rw [e2]
  rfl
theorem r_lowLoop {word : Int32} : ∀ (k n : Nat) (xs : List Int32) (w : ex_W), isRow w h a xs n → n + k ≤ xs.length → k < 1000 → ex_go X 21 4 [(0, .ref h), (1, .int word), (3, .int (nI k - 1))] [] w = some (none, rowW w h a (putL xs n (lowB word k)) (n + k)) := by
  intro k
  induction k with
  | zero =>
    intro n xs w R hk _
    have e : nI 0 - 1 < 0 := by decide
    simp only [s21_4, s21_5, if_pos e, s21_28]
    show some (none, w) = some (none, rowW w h a xs n)
    rw [rowW_self R]
  | succ k ih =>
    intro n xs w R hk hb
    rw [nI_pred]
    have e : ¬ nI k < 0 := nI_pos (by omega)
    have R1 := rowW_is (ys := xs.set n ((word >>> (((8 : Int32) * nI k) &&& 31)) &&& 255)) (n2 := n + 1) R List.length_set (by rw [List.length_set]; omega)
    rw [s21_4]
    simp only [s21_5, if_neg e, s21_8, s21_9, s21_10, s21_12, s21_13, s21_14, s21_15, s21_18, s21_19 (ex_rc_o R.1 R.2.2.2.2.1 (by decide)), r_append R (by omega), Option.bind_some, Option.toList_none, List.nil_append, s21_22, s21_25]
    have e2 : nI k + -1 = nI k - 1 := by rw [Int32.sub_eq_add_neg]
    rw [e2, ih (n + 1) _ _ R1 (by rw [List.length_set]; omega) (by omega), rowW_w R.ne, show n + 1 + k = n + (k + 1) by omega]
    rfl
theorem r_low {word : Int32} {k : Nat} (R : isRow w h a xs n) (hk : n + k ≤ xs.length) (hb : k < 1000) : ex_call X 21 [.ref h, .int word, .int (nI k)] w = some (none, rowW w h a (putL xs n (lowB word k)) (n + k)) := by
  show ex_go X 21 0 [(0, .ref h), (1, .int word), (2, .int (nI k))] [] w = _
  simp only [s21_0, s21_1, s21_2, s21_3]
  exact r_lowLoop k n xs w R hk hb
end ROW
