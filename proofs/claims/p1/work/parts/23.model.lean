/-! the other object: its fields, by their numbers -/
-- 0 block, 1 size, 2 made, 3 many, 4 waits, 5 waiting, 6 typed, 7 length, 8 text, 9 written, 10 number, 11 begins, 12 line, 13 source, 14 end, 15 place, 16 from, 17 to, 18 fault, 19 value, 20 total, 21 part, 22 countAt, 23 lineAt, 24 lines, 25 nameAt, 26 nameOf, 27 nameLine, 28 names
def mo (m : Nat → Int32) (v : Int64) : List Value := [.ref 33, .int (m 1), .ref 34, .int (m 3), .ref 35, .int (m 5), .ref 36, .int (m 7), .ref 37, .int (m 9), .ref 38, .ref 39, .ref 40, .ref 41, .int (m 14), .int (m 15), .int (m 16), .int (m 17), .int (m 18), .long v, .int (m 20), .int (m 21), .int (m 22), .ref 42, .int (m 24), .ref 43, .ref 44, .ref 45, .int (m 28)]
section MO
variable {m : Nat → Int32} {v : Int64} {y : Int32} {z : Int64}
theorem mo_0 : (mo m v)[0]? = some (.ref 33) := rfl
theorem mo_1 : (mo m v)[1]? = some (.int (m 1)) := rfl
theorem mo_2 : (mo m v)[2]? = some (.ref 34) := rfl
theorem mo_3 : (mo m v)[3]? = some (.int (m 3)) := rfl
theorem mo_4 : (mo m v)[4]? = some (.ref 35) := rfl
theorem mo_5 : (mo m v)[5]? = some (.int (m 5)) := rfl
theorem mo_6 : (mo m v)[6]? = some (.ref 36) := rfl
theorem mo_7 : (mo m v)[7]? = some (.int (m 7)) := rfl
theorem mo_8 : (mo m v)[8]? = some (.ref 37) := rfl
theorem mo_9 : (mo m v)[9]? = some (.int (m 9)) := rfl
theorem mo_10 : (mo m v)[10]? = some (.ref 38) := rfl
theorem mo_11 : (mo m v)[11]? = some (.ref 39) := rfl
theorem mo_12 : (mo m v)[12]? = some (.ref 40) := rfl
theorem mo_13 : (mo m v)[13]? = some (.ref 41) := rfl
theorem mo_14 : (mo m v)[14]? = some (.int (m 14)) := rfl
theorem mo_15 : (mo m v)[15]? = some (.int (m 15)) := rfl
theorem mo_16 : (mo m v)[16]? = some (.int (m 16)) := rfl
theorem mo_17 : (mo m v)[17]? = some (.int (m 17)) := rfl
theorem mo_18 : (mo m v)[18]? = some (.int (m 18)) := rfl
theorem mo_19 : (mo m v)[19]? = some (.long v) := rfl
theorem mo_20 : (mo m v)[20]? = some (.int (m 20)) := rfl
theorem mo_21 : (mo m v)[21]? = some (.int (m 21)) := rfl
theorem mo_22 : (mo m v)[22]? = some (.int (m 22)) := rfl
theorem mo_23 : (mo m v)[23]? = some (.ref 42) := rfl
theorem mo_24 : (mo m v)[24]? = some (.int (m 24)) := rfl
theorem mo_25 : (mo m v)[25]? = some (.ref 43) := rfl
theorem mo_26 : (mo m v)[26]? = some (.ref 44) := rfl
theorem mo_27 : (mo m v)[27]? = some (.ref 45) := rfl
theorem mo_28 : (mo m v)[28]? = some (.int (m 28)) := rfl
theorem mo_s1 : (mo m v).set 1 (.int y) = mo (upd m 1 y) v := rfl
theorem mo_s3 : (mo m v).set 3 (.int y) = mo (upd m 3 y) v := rfl
theorem mo_s5 : (mo m v).set 5 (.int y) = mo (upd m 5 y) v := rfl
theorem mo_s7 : (mo m v).set 7 (.int y) = mo (upd m 7 y) v := rfl
theorem mo_s9 : (mo m v).set 9 (.int y) = mo (upd m 9 y) v := rfl
theorem mo_s14 : (mo m v).set 14 (.int y) = mo (upd m 14 y) v := rfl
theorem mo_s15 : (mo m v).set 15 (.int y) = mo (upd m 15 y) v := rfl
theorem mo_s16 : (mo m v).set 16 (.int y) = mo (upd m 16 y) v := rfl
theorem mo_s17 : (mo m v).set 17 (.int y) = mo (upd m 17 y) v := rfl
theorem mo_s18 : (mo m v).set 18 (.int y) = mo (upd m 18 y) v := rfl
theorem mo_s20 : (mo m v).set 20 (.int y) = mo (upd m 20 y) v := rfl
theorem mo_s21 : (mo m v).set 21 (.int y) = mo (upd m 21 y) v := rfl
theorem mo_s22 : (mo m v).set 22 (.int y) = mo (upd m 22 y) v := rfl
theorem mo_s24 : (mo m v).set 24 (.int y) = mo (upd m 24 y) v := rfl
theorem mo_s28 : (mo m v).set 28 (.int y) = mo (upd m 28 y) v := rfl
theorem mo_s19 : (mo m v).set 19 (.long z) = mo m z := rfl
theorem mo_len : (mo m v).length = 29 := rfl
end MO
/-- an array of the other object -/
def isA (w : ex_W) (a : Nat) (xs : List Int32) (c : Nat) : Prop := w[a]? = some (.inr (0, xs)) ∧ xs.length = c
/-- the world with one array and the object's fields written anew -/
def mW (w : ex_W) (a : Nat) (xs : List Int32) (m : Nat → Int32) (v : Int64) : ex_W := (w.set a (.inr (0, xs))).set 32 (.inl (8, mo m v))
theorem set_id {w : ex_W} {i : Nat} {c : ex_C} (h : w[i]? = some c) : w.set i c = w := by
  apply List.ext_getElem?
  intro j
  rw [List.getElem?_set]
  by_cases e : i = j
  · subst e
    rw [if_pos rfl, if_pos (List.getElem?_eq_some_iff.mp h).1, h]
  · rw [if_neg e]
theorem mW_self {w : ex_W} {a : Nat} {xs : List Int32} {m : Nat → Int32} {v : Int64} (h1 : w[a]? = some (.inr (0, xs))) (h2 : w[32]? = some (.inl (8, mo m v))) : mW w a xs m v = w := by
  unfold mW
  rw [set_id h1, set_id h2]
theorem mW_w {w : ex_W} {a : Nat} {xs ys : List Int32} {m m2 : Nat → Int32} {v v2 : Int64} (hne : a ≠ 32) : mW (mW w a xs m v) a ys m2 v2 = mW w a ys m2 v2 := by
  unfold mW
  rw [List.set_comm _ _ (Ne.symm hne), List.set_set, List.set_set]
theorem mW_a {w : ex_W} {a : Nat} {xs ys : List Int32} {m : Nat → Int32} {v : Int64} (hne : a ≠ 32) (h : w[a]? = some (.inr (0, ys))) : (mW w a xs m v)[a]? = some (.inr (0, xs)) := ex_set_o (Ne.symm hne) (ex_set_s h)
theorem mW_m {w : ex_W} {a : Nat} {xs : List Int32} {m : Nat → Int32} {v : Int64} {c : ex_C} (hne : a ≠ 32) (h : w[32]? = some c) : (mW w a xs m v)[32]? = some (.inl (8, mo m v)) := ex_set_s (ex_set_o hne h)
theorem mW_o {w : ex_W} {a j : Nat} {xs : List Int32} {m : Nat → Int32} {v : Int64} (h1 : j ≠ a) (h2 : j ≠ 32) : (mW w a xs m v)[j]? = w[j]? := by
  unfold mW
  rw [List.getElem?_set_ne (Ne.symm h2), List.getElem?_set_ne (Ne.symm h1)]
theorem mW_len {w : ex_W} {a : Nat} {xs : List Int32} {m : Nat → Int32} {v : Int64} : (mW w a xs m v).length = w.length := by unfold mW; rw [List.length_set, List.length_set]
/-! put and type of both: the same words -/
/-- a number from 1 to 4 -/
theorem four {b : Int32} (h1 : ¬ b < 1) (h4 : ¬ 4 < b) : ∃ k : Nat, 1 ≤ k ∧ k ≤ 4 ∧ b = nI k := by
  have h0 : ¬ b < 0 := by
    rw [Int32.lt_iff_toInt_lt] at h1 ⊢
    simp at h1 ⊢
    omega
  obtain ⟨k, hk, rfl⟩ := nI_of h0
  refine ⟨k, ?_, ?_, rfl⟩
  · rcases Nat.lt_or_ge k 1 with z | z
    · exact absurd (nI_lt (b := 1) z (by decide)) h1
    · exact z
  · rcases Nat.lt_or_ge 4 k with z | z
    · exact absurd (nI_lt (a := 4) z hk) h4
    · exact z
section PUT
variable {X : Option (List Int32)} {w : ex_W} {n : Nat} {xs : List Int32} {a b : Int32}
/-- may n more be put beside u of c -/
def fitsIn (u c : Nat) (b : Int32) : Prop := ¬ b < 1 ∧ ¬ 4 < b ∧ ¬ nI c < nI u + b
theorem x_putYes {k : Nat} {fs : List Value} (h0 : w[0]? = some (.inl (0, .ref 1 :: fs))) (R : isRow w 1 2 xs n) (h1 : 1 ≤ k) (h4 : k ≤ 4) (hc : n + k ≤ 124) (hx : xs.length = 124) : ex_call X 2 [.ref 0, .int a, .int (nI k)] w = some (some (.int 1), rowW w 1 2 (putL xs n (lowB a k)) (n + k)) := by
  have z1 : (0 : Nat) < 1000 := by decide
  have z2 : (1 : Nat) < 1000 := by decide
  have e1 : ¬ nI k < 1 := nI_nlt (b := 1) h1 (by omega)
  have e2 : ¬ (4 : Int32) < nI k := nI_nlt (a := 4) h4 (by decide)
  have e3 : nI (n + k) ≤ 124 := nI_le (b := 124) hc (by decide)
  have hL := r_low (X := X) (word := a) (k := k) R (by omega) (by omega)
  show ex_go X 2 0 [(0, .ref 0), (1, .int a), (2, .int (nI k))] [] w = _
  simp only [s2_0, s2_1, s2_2, if_neg e1, s2_5, s2_6, s2_7, if_neg e2, s2_10, s2_11 z1, s2_14 z2, s2_17, s2_18, s2_19, s2_21, nI_add, if_pos e3, s2_26, s2_27 z1, s2_30, s2_31, s2_32 (ex_rc_o R.1 z2 (by decide)), ex_gf_i h0, ex_gf_i R.1, List.getElem?_cons_zero, List.getElem?_cons_succ, Option.bind_some, hL, Option.toList_none, List.nil_append, s2_35, s2_36 (Or.inr rfl)]
theorem x_putNo {fs : List Value} (h0 : w[0]? = some (.inl (0, .ref 1 :: fs))) (R : isRow w 1 2 xs n) (hb : ¬ fitsIn n 124 b) : ex_call X 2 [.ref 0, .int a, .int b] w = some (some (.int 0), w) := by
  have z1 : (0 : Nat) < 1000 := by decide
  have z2 : (1 : Nat) < 1000 := by decide
  show ex_go X 2 0 [(0, .ref 0), (1, .int a), (2, .int b)] [] w = _
  simp only [s2_0, s2_1, s2_2]
  by_cases c1 : b < 1
  · simp only [if_pos c1, s2_24, s2_25 (Or.inl rfl)]
  · simp only [if_neg c1, s2_5, s2_6, s2_7]
    by_cases c2 : (4 : Int32) < b
    · simp only [if_pos c2, s2_24, s2_25 (Or.inl rfl)]
    · have c3 : ¬ nI n + b ≤ 124 := by
        intro z
        refine hb ⟨c1, c2, fun q => ?_⟩
        rw [Int32.le_iff_toInt_le] at z
        rw [Int32.lt_iff_toInt_lt] at q
        have : (nI 124).toInt = (124 : Int32).toInt := rfl
        omega
      simp only [if_neg c2, s2_10, s2_11 z1, s2_14 z2, s2_17, s2_18, s2_19, s2_21, ex_gf_i h0, ex_gf_i R.1, List.getElem?_cons_zero, List.getElem?_cons_succ, Option.bind_some, if_neg c3, s2_24, s2_25 (Or.inl rfl)]
theorem y_putLoop {v : Int64} : ∀ (k n : Nat) (xs : List Int32) (m : Nat → Int32) (w : ex_W), w[32]? = some (.inl (8, mo m v)) → w[35]? = some (.inr (0, xs)) → xs.length = 124 → m 5 = nI n → n + k ≤ 124 → ex_go X 128 27 [(0, .ref 32), (1, .int a), (3, .int (nI k - 1))] [] w = some (some (.int 1), mW w 35 (putL xs n (lowB a k)) (upd m 5 (nI (n + k))) v) := by
  intro k
  induction k with
  | zero =>
    intro n xs m w hM hA hx hm hk
    have e : nI 0 - 1 < 0 := by decide
    rw [s128_27]
    simp only [s128_28, if_pos e, s128_66, s128_67 (Or.inr rfl)]
    have eu : upd m 5 (nI (n + 0)) = m := by
      funext j
      unfold upd
      split
      next hj => rw [hj, hm]; rfl
      next => rfl
    rw [eu, show putL xs n (lowB a 0) = xs from rfl, mW_self hA hM]
  | succ k ih =>
    intro n xs m w hM hA hx hm hk
    have z1 : (32 : Nat) < 1000 := by decide
    have z2 : (35 : Nat) < 1000 := by decide
    rw [nI_pred, s128_27]
    have e : ¬ nI k < 0 := nI_pos (by omega)
    have hM1 : (w.set 35 (.inr (0, xs.set n ((a >>> (((8 : Int32) * nI k) &&& 31)) &&& 255))))[32]? = some (.inl (8, mo m v)) := ex_set_o (by decide) hM
    have e2 : nI k + -1 = nI k - 1 := by rw [Int32.sub_eq_add_neg]
    simp only [s128_28, if_neg e, s128_31, s128_32 z1, s128_35, s128_36 z1, s128_39, s128_40, s128_42, s128_43, s128_44, s128_45, s128_48, s128_49 z2, ex_gf_i hM, mo_4, mo_5, Option.bind_some, hm, ex_as_i hA (show n < xs.length by omega) (by omega), s128_50, s128_51, s128_52 z1, ex_gf_i hM1, s128_55, s128_56, s128_57 z1, ex_pf_i hM1 (k := 5) (by rw [mo_len]; decide), mo_s5, nI_1, s128_60, s128_63, e2]
    have hW : (w.set 35 (Sum.inr (0, xs.set n ((a >>> (((8 : Int32) * nI k) &&& 31)) &&& 255)))).set 32 (Sum.inl (8, mo (upd m 5 (nI (n + 1))) v)) = mW w 35 (xs.set n ((a >>> (((8 : Int32) * nI k) &&& 31)) &&& 255)) (upd m 5 (nI (n + 1))) v := rfl
    rw [hW, ih (n + 1) _ (upd m 5 (nI (n + 1))) _ (mW_m (by decide) hM) (mW_a (by decide) hA) (by rw [List.length_set]; exact hx) pk_us (by omega), mW_w (by decide)]
    have eu : upd (upd m 5 (nI (n + 1))) 5 (nI (n + 1 + k)) = upd m 5 (nI (n + (k + 1))) := by
      funext j
      unfold upd
      rw [show n + 1 + k = n + (k + 1) by omega]
      split <;> rfl
    rw [eu]
    rfl
theorem y_putYes {v : Int64} {m : Nat → Int32} {k : Nat} (hM : w[32]? = some (.inl (8, mo m v))) (hA : w[35]? = some (.inr (0, xs))) (hx : xs.length = 124) (hm : m 5 = nI n) (h1 : 1 ≤ k) (h4 : k ≤ 4) (hc : n + k ≤ 124) : ex_call X 128 [.ref 32, .int a, .int (nI k)] w = some (some (.int 1), mW w 35 (putL xs n (lowB a k)) (upd m 5 (nI (n + k))) v) := by
  have z1 : (32 : Nat) < 1000 := by decide
  have e1 : ¬ nI k < 1 := nI_nlt (b := 1) h1 (by omega)
  have e2 : ¬ (4 : Int32) < nI k := nI_nlt (a := 4) h4 (by decide)
  have e3 : nI (n + k) ≤ 124 := nI_le (b := 124) hc (by decide)
  show ex_go X 128 0 [(0, .ref 32), (1, .int a), (2, .int (nI k))] [] w = _
  simp only [s128_0, s128_1, s128_2, if_neg e1, s128_5, s128_6, s128_7, if_neg e2, s128_10, s128_11 z1, s128_14, s128_15, s128_16, s128_18, ex_gf_i hM, mo_5, Option.bind_some, hm, nI_add, if_pos e3, s128_23, s128_24, s128_25, s128_26]
  exact y_putLoop k n xs m w hM hA hx hm hc
theorem y_putNo {v : Int64} {m : Nat → Int32} (hM : w[32]? = some (.inl (8, mo m v))) (hm : m 5 = nI n) (hb : ¬ fitsIn n 124 b) : ex_call X 128 [.ref 32, .int a, .int b] w = some (some (.int 0), w) := by
  have z1 : (32 : Nat) < 1000 := by decide
  show ex_go X 128 0 [(0, .ref 32), (1, .int a), (2, .int b)] [] w = _
  simp only [s128_0, s128_1, s128_2]
  by_cases c1 : b < 1
  · simp only [if_pos c1, s128_21, s128_22 (Or.inl rfl)]
  · simp only [if_neg c1, s128_5, s128_6, s128_7]
    by_cases c2 : (4 : Int32) < b
    · simp only [if_pos c2, s128_21, s128_22 (Or.inl rfl)]
    · have c3 : ¬ nI n + b ≤ 124 := by
        intro z
        refine hb ⟨c1, c2, fun q => ?_⟩
        rw [Int32.le_iff_toInt_le] at z
        rw [Int32.lt_iff_toInt_lt] at q
        have : (nI 124).toInt = (124 : Int32).toInt := rfl
        omega
      simp only [if_neg c2, s128_10, s128_11 z1, s128_14, s128_15, s128_16, s128_18, ex_gf_i hM, mo_5, Option.bind_some, hm, if_neg c3, s128_21, s128_22 (Or.inl rfl)]
end PUT
