/-! numbers in the scribe's text -/
theorem dv10 {r : Int64} {N : Nat} (h : r.toInt = -(N : Int)) : (r / 10).toInt = -((N / 10 : Nat) : Int) := by
  have e : (10 : Int64).toInt = 10 := rfl
  rw [Jvm.Kit.i64_div (by rw [e]; omega), h, e, Int.neg_tdiv]
  rfl
theorem rm10 {r : Int64} {N : Nat} (h : r.toInt = -(N : Int)) : (r - r / 10 * 10).toInt = -((N % 10 : Nat) : Int) := by
  have e : (10 : Int64).toInt = 10 := rfl
  have b1 := r.le_toInt
  have b2 := r.toInt_lt
  have m : (r / 10 * 10).toInt = -((N / 10 * 10 : Nat) : Int) := by
    rw [Int64.toInt_mul, dv10 h, e]
    rw [Int.bmod_eq_of_le (by omega) (by omega)]
    omega
  rw [Int64.toInt_sub, m, h, Int.bmod_eq_of_le (by omega) (by omega)]
  omega
theorem rm10i {r : Int64} {N : Nat} (h : r.toInt = -(N : Int)) : (r - r / 10 * 10).toInt32.toInt = -((N % 10 : Nat) : Int) := by
  have m := rm10 h
  rw [Jvm.Kit.i32_of_i64 (by omega) (by omega), m]
theorem dg48 {r : Int64} {N : Nat} (h : r.toInt = -(N : Int)) : 48 - (r - r / 10 * 10).toInt32 = nI (48 + N % 10) := by
  apply Int32.toInt_inj.mp
  rw [Int32.toInt_sub, rm10i h, nI_toInt (by omega), show (48 : Int32).toInt = 48 from rfl, Int.bmod_eq_of_le (by omega) (by omega)]
  omega
/-- the digits of a number, the lowest first -/
def dgN : Nat → Nat → List Nat
  | 0, _ => []
  | k + 1, n => if n = 0 then [] else (48 + n % 10) :: dgN k (n / 10)
def decN (n : Nat) : List Nat := ((48 + n % 10) :: dgN 18 (n / 10)).reverse
def numN (v : Int64) : List Nat := (if v < 0 then [45] else []) ++ decN v.toInt.natAbs
theorem dgN_len : ∀ (k n : Nat), (dgN k n).length ≤ k
  | 0, _ => Nat.le_refl _
  | k + 1, n => by
    rw [dgN]
    split
    next => exact Nat.zero_le _
    next =>
      have := dgN_len k (n / 10)
      rw [List.length_cons]
      omega
theorem decN_len (n : Nat) : 1 ≤ (decN n).length ∧ (decN n).length ≤ 19 := by
  unfold decN
  have := dgN_len 18 (n / 10)
  rw [List.length_reverse, List.length_cons]
  omega
section NUMBER
variable {X : Option (List Int32)} {w0 w : ex_W} {t D : List Nat} {pl : Nat} {ms : List Int32}
theorem l0_i {x : Int64} : (x = 0) = (x.toInt = 0) := by
  rw [← Int64.toInt_inj]
  rfl
theorem c_digLoop : ∀ (k i N : Nat) (r : Int64) (D : List Nat) (w : ex_W), i + k = 19 → 1 ≤ i → r.toInt = -(N : Int) → N < 10 ^ k → isSc w0 w t D pl ms → D.length = i → ∃ w2, ex_go X 72 51 [(0, .ref 15), (4, .long r), (6, .int (nI i))] [] w = ex_go X 72 101 [(0, .ref 15)] [] w2 ∧ isSc w0 w2 t (D ++ dgN k N) pl ms := by
  intro k
  induction k with
  | zero =>
    intro i N r D w hi h1 hr hN S hD
    have e : (19 : Int32) ≤ nI i := nI_le (a := 19) (by omega) (by omega)
    refine ⟨w, ?_, by rw [dgN, List.append_nil]; exact S⟩
    simp (disch := first | assumption | decide) only [s72_51, s72_53, s72_55, if_pos e]
  | succ k ih =>
    intro i N r D w hi h1 hr hN S hD
    have e : ¬ (19 : Int32) ≤ nI i := nI_ge (b := 19) (by omega) (by decide)
    have e0 : ¬ nI i = 0 := nI_ne0 (by omega) (by omega)
    by_cases c : N = 0
    · have ec : lg_cmp r 0 = 0 := (lg_cmp_eq r 0).mpr (by rw [l0_i, hr, c]; rfl)
      refine ⟨w, ?_, by rw [dgN, if_pos c, List.append_nil]; exact S⟩
      simp (disch := first | assumption | decide) only [s72_51, s72_53, s72_55, s72_58, s72_60, s72_63, s72_65, s72_66, s72_67, if_neg e, if_neg e0, ec, if_true]
    · have ec : ¬ lg_cmp r 0 = 0 := fun z => by
        have := (lg_cmp_eq r 0).mp z
        rw [l0_i, hr] at this
        omega
      obtain ⟨w2, h2, h3⟩ := c_dig (X := X) (c := 48 + N % 10) S (by omega)
      obtain ⟨w3, h4, h5⟩ := ih (i + 1) (N / 10) (r / 10) _ w2 (by omega) (by omega) (dv10 hr) (by
        rw [Nat.pow_succ] at hN
        omega) h3 (by rw [List.length_append, List.length_singleton]; omega)
      refine ⟨w3, ?_, ?_⟩
      · have rD := sc_rD S
        have z10 : ¬ (10 : Int64) = 0 := by decide
        rw [s72_51]
        simp (disch := first | assumption | decide) only [s72_53, s72_55, s72_58, s72_60, s72_63, s72_65, s72_66, s72_67, s72_70, s72_71, s72_74, s72_76, s72_78, s72_81, s72_82, s72_83, s72_84, s72_87, s72_89, s72_92, s72_93, s72_95, s72_98, if_neg e, if_neg e0, if_neg ec, sc_gD S, List.getElem?_cons_zero, List.getElem?_cons_succ, Option.bind_some, Option.toList_some, Option.toList_none, List.cons_append, List.nil_append, dg48 hr, h2, nI_1, h4]
      · rw [dgN, if_neg c]
        simp only [List.append_assoc, List.cons_append, List.nil_append] at h5 ⊢
        exact h5
theorem c_outLoop : ∀ (k : Nat) (t : List Nat) (w : ex_W), k ≤ D.length → D.length ≤ 19 → isSc w0 w t D pl ms → t.length + k + 1 ≤ 808 → ∃ w2, ex_go X 72 112 [(0, .ref 15), (6, .int (nI k - 1))] [] w = some (none, w2) ∧ isSc w0 w2 (t ++ (D.take k).reverse ++ [32]) D pl ms := by
  intro k
  induction k with
  | zero =>
    intro t w hk h19 S hl
    have e : nI 0 - 1 < 0 := by decide
    obtain ⟨w2, h1, h2⟩ := c_say (X := X) (c := 32) S (by omega)
    refine ⟨w2, ?_, ?_⟩
    · have h1 : ex_call X 17 [.ref 16, .int 32] w = some (none, w2) := h1
      have rT := sc_rT S
      simp (disch := first | assumption | decide) only [s72_112, s72_114, s72_117, s72_118, s72_121, s72_122, s72_125, s72_127, s72_130, s72_133, s72_136, s72_139, s72_140, s72_143, s72_145, s72_148, if_pos e, List.getElem?_cons_zero, List.getElem?_cons_succ, Option.bind_some, Option.toList_some, Option.toList_none, List.cons_append, List.nil_append, sc_gT S, h1]
    · rw [List.take_zero, List.reverse_nil, List.append_nil]
      exact h2
  | succ k ih =>
    intro t w hk h19 S hl
    rw [nI_pred]
    have e : ¬ nI k < 0 := nI_pos (by omega)
    obtain ⟨w2, h1, h2⟩ := c_say (X := X) (c := D.getD k 0) S (by omega)
    obtain ⟨w3, h3, h4⟩ := ih _ w2 (by omega) h19 h2 (by rw [List.length_append, List.length_singleton]; omega)
    refine ⟨w3, ?_, ?_⟩
    · have rT := sc_rT S
      have rD := sc_rD S
      have cd := c_cellD (X := X) (i := k) S (by omega)
      have em : nI k + (-1) = nI k - 1 := by rw [Int32.sub_eq_add_neg]
      rw [s72_112]
      simp (disch := first | assumption | decide) only [s72_114, s72_117, s72_118, s72_121, s72_122, s72_125, s72_127, s72_130, s72_133, s72_136, if_neg e, List.getElem?_cons_zero, List.getElem?_cons_succ, Option.bind_some, Option.toList_some, Option.toList_none, List.cons_append, List.nil_append, sc_gT S, sc_gD S, cd, h1, em, h3]
    · have et : D.take (k + 1) = D.take k ++ [D.getD k 0] := by
        rw [List.take_add_one, List.getElem?_eq_getElem (by omega), List.getD_eq_getElem?_getD, List.getElem?_eq_getElem (by omega)]
        rfl
      rw [et, List.reverse_append]
      simp only [List.append_assoc, List.cons_append, List.nil_append, List.reverse_cons, List.reverse_nil] at h4 ⊢
      exact h4
theorem negI {v : Int64} (h : 0 ≤ v.toInt) : (-v).toInt = -((v.toInt.natAbs : Nat) : Int) := by
  have b2 := v.toInt_lt
  rw [Int64.toInt_neg, Int.bmod_eq_of_le (by omega) (by omega)]
  omega
theorem c_number {sg : Nat} {v : Int64} (S : isSc w0 w t D pl ms) (hsg : sg < 128) (hl : t.length + (if sg = 0 then [] else [sg]).length + (numN v).length + 1 ≤ 808) : ∃ D2 w2, ex_call X 72 [.ref 15, .int (nI sg), .long v] w = some (none, w2) ∧ isSc w0 w2 (t ++ (if sg = 0 then [] else [sg]) ++ numN v ++ [32]) D2 pl ms := by
  have b1 := v.le_toInt
  have b2 := v.toInt_lt
  -- the rest of it
  have rest : ∀ (t : List Nat) (w : ex_W) (r : Int64) (N : Nat), isSc w0 w t D pl ms → r.toInt = -(N : Int) → N ≤ 2 ^ 63 → t.length + (decN N).length + 1 ≤ 808 → ∃ D2 w2, ex_go X 72 41 [(0, .ref 15), (4, .long r)] [] w = some (none, w2) ∧ isSc w0 w2 (t ++ decN N ++ [32]) D2 pl ms := by
    intro t w r N S hr hN hl
    obtain ⟨w1, a1, S1⟩ := c_emptyD (X := X) S
    obtain ⟨w2, a2, S2⟩ := c_dig (X := X) (c := 48 + N % 10) S1 (by decide)
    obtain ⟨w3, a3, S3⟩ := c_digLoop (X := X) 18 1 (N / 10) (r / 10) _ w2 (by omega) (by omega) (dv10 hr) (by omega) S2 rfl
    have dl : ([] ++ [48 + N % 10] ++ dgN 18 (N / 10)) = (48 + N % 10) :: dgN 18 (N / 10) := rfl
    rw [dl] at S3
    have dn : ((48 + N % 10) :: dgN 18 (N / 10)).length = (decN N).length := by unfold decN; rw [List.length_reverse]
    have d19 := decN_len N
    obtain ⟨w4, a4, S4⟩ := c_outLoop (X := X) ((48 + N % 10) :: dgN 18 (N / 10)).length t w3 (Nat.le_refl _) (by omega) S3 (by omega)
    refine ⟨(48 + N % 10) :: dgN 18 (N / 10), w4, ?_, ?_⟩
    · have rD := sc_rD S
      have rD1 := sc_rD S1
      have e : ¬ (19 : Int32) ≤ 0 := by decide
      have z10 : ¬ (10 : Int64) = 0 := by decide
      have a3 : ex_go X 72 51 [(0, .ref 15), (4, .long (r / 10)), (6, .int (0 + 1))] [] w2 = _ := a3
      have h51 : ex_go X 72 51 [(0, .ref 15), (4, .long r), (6, .int 0)] [] w1 = ex_go X 72 101 [(0, .ref 15)] [] w3 := by
        rw [s72_51, ← a3]
        simp (disch := first | assumption | decide) only [s72_53, s72_55, s72_58, s72_60, s72_63, s72_65, s72_66, s72_67, s72_70, s72_71, s72_74, s72_76, s72_78, s72_81, s72_82, s72_83, s72_84, s72_87, s72_89, s72_92, s72_93, s72_95, s72_98, if_neg e, if_true, sc_gD S1, List.getElem?_cons_zero, List.getElem?_cons_succ, Option.bind_some, Option.toList_some, Option.toList_none, List.cons_append, List.nil_append, dg48 hr, a2]
      simp (disch := first | assumption | decide) only [s72_41, s72_42, s72_45, s72_48, s72_49, s72_101, s72_102, s72_105, s72_108, s72_109, s72_110, sc_gD S, List.getElem?_cons_zero, List.getElem?_cons_succ, Option.bind_some, Option.toList_some, Option.toList_none, List.cons_append, List.nil_append, a1, h51, sc_gD S3, sc_nD S3, a4]
    · rw [List.take_length] at S4
      exact S4
  unfold numN
  -- behind the sign
  have mid : ∀ (t : List Nat) (w : ex_W), isSc w0 w t D pl ms → t.length + (numN v).length + 1 ≤ 808 → ∃ D2 w2, ex_go X 72 12 [(0, .ref 15), (2, .long v)] [] w = some (none, w2) ∧ isSc w0 w2 (t ++ numN v ++ [32]) D2 pl ms := by
    intro t w S hl
    unfold numN at hl ⊢
    by_cases c : v < 0
    · have ec : ¬ 0 ≤ lg_cmp v 0 := by rw [lg_cmp_ge]; exact lg_lt_not_le c
      have c' : v.toInt < 0 := by rw [Int64.lt_iff_toInt_lt] at c; exact c
      rw [if_pos c] at hl ⊢
      rw [List.length_append, List.length_singleton] at hl
      obtain ⟨w1, a1, S1⟩ := c_say (X := X) (c := 45) S (by omega)
      obtain ⟨D2, w2, a2, S2⟩ := rest _ w1 v v.toInt.natAbs S1 (by omega) (by omega) (by rw [List.length_append, List.length_singleton]; omega)
      refine ⟨D2, w2, ?_, ?_⟩
      · have a1 : ex_call X 17 [.ref 16, .int 45] w = some (none, w1) := a1
        have rT := sc_rT S
        simp (disch := first | assumption | decide) only [s72_12, s72_13, s72_14, s72_15, s72_18, s72_19, s72_22, s72_24, s72_27, s72_28, s72_29, s72_30, s72_33, s72_34, s72_37, s72_38, s72_39, if_neg ec, sc_gT S, List.getElem?_cons_zero, List.getElem?_cons_succ, Option.bind_some, Option.toList_some, Option.toList_none, List.cons_append, List.nil_append, a1, a2]
      · simp only [List.append_assoc, List.cons_append, List.nil_append] at S2 ⊢
        exact S2
    · have c' : 0 ≤ v.toInt := by rw [Int64.lt_iff_toInt_lt] at c; exact Int.not_lt.mp c
      have ec : 0 ≤ lg_cmp v 0 := by rw [lg_cmp_ge, Int64.le_iff_toInt_le]; exact c'
      rw [if_neg c, List.nil_append] at hl ⊢
      obtain ⟨D2, w2, a2, S2⟩ := rest _ w (-v) v.toInt.natAbs S (negI c') (by omega) hl
      refine ⟨D2, w2, ?_, S2⟩
      simp (disch := first | assumption | decide) only [s72_12, s72_13, s72_14, s72_15, s72_18, s72_19, s72_22, s72_24, s72_27, s72_28, s72_29, s72_30, s72_33, s72_34, s72_37, s72_38, s72_39, if_pos ec, List.getElem?_cons_zero, List.getElem?_cons_succ, Option.bind_some, Option.toList_some, Option.toList_none, List.cons_append, List.nil_append, a2]
  have mid := mid
  unfold numN at mid
  by_cases c : sg = 0
  · rw [if_pos c, List.append_nil]
    rw [if_pos c, List.length_nil, Nat.add_zero] at hl
    obtain ⟨D2, w2, a2, S2⟩ := mid t w S hl
    refine ⟨D2, w2, ?_, S2⟩
    show ex_go X 72 0 [(0, .ref 15), (1, .int (nI sg)), (2, .long v)] [] w = _
    rw [c]
    have e0 : nI 0 = 0 := rfl
    simp (disch := first | assumption | decide) only [s72_0, s72_1, if_pos e0, a2]
  · rw [if_neg c]
    rw [if_neg c, List.length_singleton] at hl
    obtain ⟨w1, a1, S1⟩ := c_say (X := X) (c := sg) S (by omega)
    obtain ⟨D2, w2, a2, S2⟩ := mid _ w1 S1 (by rw [List.length_append, List.length_singleton]; exact hl)
    refine ⟨D2, w2, ?_, S2⟩
    show ex_go X 72 0 [(0, .ref 15), (1, .int (nI sg)), (2, .long v)] [] w = _
    have e0 : ¬ nI sg = 0 := nI_ne0 (by omega) (by omega)
    have rT := sc_rT S
    simp (disch := first | assumption | decide) only [s72_0, s72_1, s72_4, s72_5, s72_8, s72_9, if_neg e0, sc_gT S, List.getElem?_cons_zero, List.getElem?_cons_succ, Option.bind_some, Option.toList_some, Option.toList_none, List.cons_append, List.nil_append, a1, a2]
end NUMBER
/-- the signed number that n bytes are -/
def wdN (B : List Nat) (p : Nat) : Nat → Int64
  | 0 => if 127 < B.getD p 0 then -1 else 0
  | n + 1 => wdN B p n * 256 + (nI (B.getD (p + n) 0)).toInt64
theorem shl8 {b : Nat} (hb : b < 256) (x : Int64) : (x <<< ((8 : Int32).toInt64 &&& 63)) ||| (nI b).toInt64 = x * 256 + (nI b).toInt64 := by
  have e8 : ((8 : Int32).toInt64 &&& 63) = 8 := by decide
  rw [e8]
  apply Int64.toBitVec_inj.mp
  have eb : (nI b).toInt64.toBitVec = BitVec.ofNat 64 b := by
    rw [nI_l (by omega)]
    rfl
  have es : (x <<< (8 : Int64)).toBitVec = x.toBitVec <<< 8 := by
    rw [Int64.toBitVec_shiftLeft]
    rfl
  have em : (x * 256).toBitVec = x.toBitVec <<< 8 := by
    rw [Int64.toBitVec_mul]
    apply BitVec.eq_of_toNat_eq
    rw [BitVec.toNat_mul, BitVec.toNat_shiftLeft, Nat.shiftLeft_eq]
    rfl
  rw [Int64.toBitVec_or, Int64.toBitVec_add, eb, es, em]
  symm
  apply BitVec.add_eq_or_of_and_eq_zero
  apply BitVec.eq_of_getLsbD_eq
  intro i hi
  rw [BitVec.getLsbD_and, BitVec.getLsbD_shiftLeft, BitVec.getLsbD_ofNat, BitVec.getLsbD_zero]
  by_cases c : i < 8
  · simp [c]
  · have : b.testBit i = false := Nat.testBit_lt_two_pow (Nat.lt_of_lt_of_le hb (by
      have := Nat.pow_le_pow_right (n := 2) (by decide) (show 8 ≤ i by omega)
      exact this))
    rw [this]
    simp
theorem wd1 {B : List Nat} {p : Nat} (hb : B.getD p 0 < 256) : (nI (B.getD p 0)).toInt8.toInt32.toInt64 = wdN B p 1 := by
  have key : ∀ b, b < 256 → (nI b).toInt8.toInt32.toInt64 = (if 127 < b then (-1 : Int64) else 0) * 256 + (nI b).toInt64 := by decide +kernel
  exact key _ hb
