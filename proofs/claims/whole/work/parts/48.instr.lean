/-! an instruction's line -/
def nB (x : Nat) : List Nat := numN (nI x).toInt64
def zT (B : List Nat) (f p q : Nat) : Nat := (tgI B f p q).toNatClampNeg
/-- a distance's word -/
def dT (B : List Nat) (f : Nat) (T : Nat → Bool) (p q : Nat) : List Nat := if ¬ tgI B f p q < 0 ∧ T (zT B f p q) = true then 64 :: nB (cntB T (zT B f p q)) else (if d32 B (p + headN (B.getD p 0) + 2 * q) < 0 then [] else [43]) ++ numN (d32 B (p + headN (B.getD p 0) + 2 * q)).toInt64
def disT (B : List Nat) (f : Nat) (T : Nat → Bool) (p : Nat) : Nat → Nat → List Nat
  | 0, _ => []
  | k + 1, q => 32 :: (dT B f T p q ++ disT B f T p k (q + 1))
def opW (x : Nat) : List Nat := txN (22 + x)
def opA (B : List Nat) (p : Nat) : List Nat := if B.getD p 0 = 1 then 32 :: numN (wdN B (p + 1) 1) else if (B.getD p 0 = 2 ∨ B.getD p 0 = 8 ∨ B.getD p 0 = 10) then 32 :: nB (B.getD (p + 1) 0) else []
def insT (B : List Nat) (f : Nat) (T : Nat → Bool) (p : Nat) : List Nat := opW (B.getD p 0) ++ opA B p ++ disT B f T p (distN B p) 0
theorem tgI_z {B : List Nat} {f p q z : Nat} (h : tgI B f p q = nI z) (hz : z < 2 ^ 31) : zT B f p q = z ∧ ¬ tgI B f p q < 0 := by
  unfold zT
  rw [h]
  exact ⟨nI_clamp hz, nI_pos hz⟩
theorem tgI_back {B : List Nat} {f p q : Nat} (h : ¬ tgI B f p q < 0) : tgI B f p q = nI (zT B f p q) ∧ zT B f p q < 2 ^ 31 := by
  obtain ⟨j, hj, e⟩ := nI_of h
  have := tgI_z e hj
  rw [this.1]
  exact ⟨e, hj⟩
section INSTR
variable {X : Option (List Int32)} {w0 w : ex_W} {t D : List Nat} {pl : Nat} {ms : List Int32} {q a : Nat} {us : List Int32} {B : List Nat}
theorem c_wordOf {x : Nat} (hx : x ≤ 10) : ex_call X 104 [.int (nI x)] w = some (some (.ref (1001 + (22 + x))), w) := by
  show ex_go X 104 0 [(0, .int (nI x))] [] w = _
  have cs : x = 0 ∨ x = 1 ∨ x = 2 ∨ x = 3 ∨ x = 4 ∨ x = 5 ∨ x = 6 ∨ x = 7 ∨ x = 8 ∨ x = 9 ∨ x = 10 := by omega
  rcases cs with c | c | c | c | c | c | c | c | c | c | c <;> subst c <;> simp (disch := first | assumption | decide) only [s104_0, s104_1, s104_56, s104_58, s104_59, s104_61, s104_62, s104_64, s104_65, s104_67, s104_68, s104_70, s104_71, s104_73, s104_74, s104_76, s104_77, s104_79, s104_80, s104_82, s104_83, s104_85, s104_86, s104_88, if_pos, if_neg]
theorem c_distLoop (Y : isBy w0 q a us B) {f n o : Nat} {L : List Nat} {T : Nat → Bool} (hf : f < 2 ^ 19) (hn : n ≤ 120) (ho : o < n) (hT : ∀ z, T z = true → z < n) : ∀ (r k : Nat) (t D : List Nat) (w : ex_W), k + r = distN B (f + o) → isSc w0 w (t ++ [32]) D n ms → lnS f n L T n ms → t.length + 1 + (disT B f T (f + o) r k).length ≤ 808 → ∃ (D2 : List Nat) (w2 : ex_W), ex_go X 82 88 [(0, .ref 15), (1, .ref q), (3, .int (nI o)), (6, .int (nI (distN B (f + o)))), (7, .int (nI (f + o + headN (B.getD (f + o) 0)))), (8, .int (nI k))] [] w = some (none, w2) ∧ isSc w0 w2 (t ++ disT B f T (f + o) r k ++ [32]) D2 n ms := by
  have hd := distN_le Y.2.2.1 (f + o)
  have hh := headN_le (B.getD (f + o) 0)
  intro r
  induction r with
  | zero =>
    intro k t D w hk S Mk hl
    have e : nI (distN B (f + o)) ≤ nI k := nI_le (by omega) (by omega)
    refine ⟨D, w, ?_, by rw [disT, List.append_nil]; exact S⟩
    simp (disch := first | assumption | decide) only [s82_88, s82_90, s82_92, s82_165, if_pos e]
  | succ r ih =>
    intro k t D w hk S Mk hl
    have e : ¬ nI (distN B (f + o)) ≤ nI k := nI_ge (by omega) (by omega)
    have rB := sc_rB S Y
    have rc := sc_rc S
    have mr := sc_mr S
    have sg : ex_call X 20 [.ref q, .int (nI (f + o + headN (B.getD (f + o) 0) + 2 * k)), .int 2] w = some (some (.long (wdN B (f + o + headN (B.getD (f + o) 0) + 2 * k) 2)), w) := c_signed (X := X) (n := 2) (sc_by S Y) Y.2.1 Y.2.2.1 (by omega) (by omega) (by omega)
    have mu : (2 : Int32) * nI k = nI (2 * k) := pk_mul 2 k
    have tq : nI o + d32 B (f + o + headN (B.getD (f + o) 0) + 2 * k) = tgI B f (f + o) k := by
      unfold tgI
      rw [show f + o - f = o by omega]
    rw [disT, List.length_cons, List.length_append] at hl
    have nx : ∀ w : ex_W, ex_go X 82 159 [(0, .ref 15), (1, .ref q), (3, .int (nI o)), (6, .int (nI (distN B (f + o)))), (7, .int (nI (f + o + headN (B.getD (f + o) 0)))), (8, .int (nI k))] [] w = ex_go X 82 88 [(0, .ref 15), (1, .ref q), (3, .int (nI o)), (6, .int (nI (distN B (f + o)))), (7, .int (nI (f + o + headN (B.getD (f + o) 0)))), (8, .int (nI (k + 1)))] [] w := by
      intro w
      simp (disch := first | assumption | decide) only [s82_159, s82_162, nI_1]
    have one : ∃ (D2 : List Nat) (w2 : ex_W), ex_go X 82 88 [(0, .ref 15), (1, .ref q), (3, .int (nI o)), (6, .int (nI (distN B (f + o)))), (7, .int (nI (f + o + headN (B.getD (f + o) 0)))), (8, .int (nI k))] [] w = ex_go X 82 159 [(0, .ref 15), (1, .ref q), (3, .int (nI o)), (6, .int (nI (distN B (f + o)))), (7, .int (nI (f + o + headN (B.getD (f + o) 0)))), (8, .int (nI k))] [] w2 ∧ isSc w0 w2 ((t ++ 32 :: dT B f T (f + o) k) ++ [32]) D2 n ms := by
      by_cases c : ¬ tgI B f (f + o) k < 0 ∧ T (zT B f (f + o) k) = true
      · obtain ⟨z1, z2⟩ := tgI_back c.1
        have hz := hT _ c.2
        have cl := cntB_le T (zT B f (f + o) k)
        have ly := c_lineYes (X := X) hn S Mk hz c.2
        rw [← z1] at ly
        have e1 : ¬ nI (cntB T (zT B f (f + o) k)) = -1 := by
          intro y
          have := nI_pos (n := cntB T (zT B f (f + o) k)) (by omega)
          rw [y] at this
          exact this (by decide)
        have ed : dT B f T (f + o) k = 64 :: nB (cntB T (zT B f (f + o) k)) := by rw [dT, if_pos c]
        rw [ed] at hl ⊢
        unfold nB at hl ⊢
        obtain ⟨D2, w2, a1, a2⟩ := c_number (X := X) (sg := 64) (v := (nI (cntB T (zT B f (f + o) k))).toInt64) S (by decide) (by rw [if_neg (by decide)]; simp only [List.length_append, List.length_cons, List.length_nil] at hl ⊢; omega)
        refine ⟨D2, w2, ?_, ?_⟩
        · have a1 : ex_call X 72 [.ref 15, .int 64, .long (nI (cntB T (zT B f (f + o) k))).toInt64] w = some (none, w2) := a1
          rw [s82_88]
          simp (disch := first | assumption | decide) only [s82_90, s82_92, s82_95, s82_96, s82_98, s82_99, s82_101, s82_102, s82_103, s82_104, s82_107, s82_108, s82_110, s82_111, s82_114, s82_115, s82_117, s82_118, s82_121, s82_123, s82_125, s82_126, s82_129, s82_130, s82_132, s82_134, s82_135, s82_138, if_neg e, mu, nI_add, sg, List.getElem?_cons_zero, List.getElem?_cons_succ, Option.bind_some, Option.toList_some, Option.toList_none, List.cons_append, List.nil_append, wd2 Y.2.2.1, sc_gM S, tq, ly, if_neg e1, a1]
        · rw [if_neg (by decide)] at a2
          simp only [List.append_assoc, List.cons_append, List.nil_append] at a2 ⊢
          exact a2
      · have ln := c_lineNo (X := X) (x := tgI B f (f + o) k) hn S Mk (by
          intro z hz y
          obtain ⟨y1, y2⟩ := tgI_z y (by omega)
          cases hTz : T z with
          | false => rfl
          | true => exact absurd ⟨y2, by rw [y1]; exact hTz⟩ c)
        have ed : dT B f T (f + o) k = (if d32 B (f + o + headN (B.getD (f + o) 0) + 2 * k) < 0 then [] else [43]) ++ numN (d32 B (f + o + headN (B.getD (f + o) 0) + 2 * k)).toInt64 := by rw [dT, if_neg c]
        rw [ed] at hl ⊢
        have e1 : (-1 : Int32) = -1 := rfl
        by_cases c2 : d32 B (f + o + headN (B.getD (f + o) 0) + 2 * k) < 0
        · have c3 : ¬ 0 ≤ d32 B (f + o + headN (B.getD (f + o) 0) + 2 * k) := by
            rw [Int32.lt_iff_toInt_lt] at c2
            rw [Int32.le_iff_toInt_le]
            omega
          rw [if_pos c2] at hl ⊢
          obtain ⟨D2, w2, a1, a2⟩ := c_number (X := X) (sg := 0) (v := (d32 B (f + o + headN (B.getD (f + o) 0) + 2 * k)).toInt64) S (by decide) (by rw [if_pos rfl]; simp only [List.length_append, List.length_cons, List.length_nil] at hl ⊢; omega)
          refine ⟨D2, w2, ?_, ?_⟩
          · have a1 : ex_call X 72 [.ref 15, .int 0, .long (d32 B (f + o + headN (B.getD (f + o) 0) + 2 * k)).toInt64] w = some (none, w2) := a1
            rw [s82_88]
            simp (disch := first | assumption | decide) only [s82_90, s82_92, s82_95, s82_96, s82_98, s82_99, s82_101, s82_102, s82_103, s82_104, s82_107, s82_108, s82_110, s82_111, s82_114, s82_115, s82_117, s82_118, s82_121, s82_123, s82_125, s82_126, s82_129, s82_130, s82_132, s82_134, s82_135, s82_138, s82_141, s82_142, s82_144, s82_147, s82_148, s82_151, s82_153, s82_155, s82_156, if_neg e, mu, nI_add, sg, List.getElem?_cons_zero, List.getElem?_cons_succ, Option.bind_some, Option.toList_some, Option.toList_none, List.cons_append, List.nil_append, wd2 Y.2.2.1, sc_gM S, tq, ln, if_true, if_neg c3, a1]
          · rw [if_pos rfl] at a2
            simp only [List.append_assoc, List.cons_append, List.nil_append] at a2 ⊢
            exact a2
        · have c3 : 0 ≤ d32 B (f + o + headN (B.getD (f + o) 0) + 2 * k) := by
            rw [Int32.lt_iff_toInt_lt] at c2
            rw [Int32.le_iff_toInt_le]
            omega
          rw [if_neg c2] at hl ⊢
          obtain ⟨D2, w2, a1, a2⟩ := c_number (X := X) (sg := 43) (v := (d32 B (f + o + headN (B.getD (f + o) 0) + 2 * k)).toInt64) S (by decide) (by rw [if_neg (by decide)]; simp only [List.length_append, List.length_cons, List.length_nil] at hl ⊢; omega)
          refine ⟨D2, w2, ?_, ?_⟩
          · have a1 : ex_call X 72 [.ref 15, .int 43, .long (d32 B (f + o + headN (B.getD (f + o) 0) + 2 * k)).toInt64] w = some (none, w2) := a1
            rw [s82_88]
            simp (disch := first | assumption | decide) only [s82_90, s82_92, s82_95, s82_96, s82_98, s82_99, s82_101, s82_102, s82_103, s82_104, s82_107, s82_108, s82_110, s82_111, s82_114, s82_115, s82_117, s82_118, s82_121, s82_123, s82_125, s82_126, s82_129, s82_130, s82_132, s82_134, s82_135, s82_138, s82_141, s82_142, s82_144, s82_147, s82_148, s82_151, s82_153, s82_155, s82_156, if_neg e, mu, nI_add, sg, List.getElem?_cons_zero, List.getElem?_cons_succ, Option.bind_some, Option.toList_some, Option.toList_none, List.cons_append, List.nil_append, wd2 Y.2.2.1, sc_gM S, tq, ln, if_true, if_pos c3, a1]
          · rw [if_neg (by decide)] at a2
            simp only [List.append_assoc, List.cons_append, List.nil_append] at a2 ⊢
            exact a2
    obtain ⟨D2, w2, a1, a2⟩ := one
    obtain ⟨D3, w3, b1, b2⟩ := ih (k + 1) _ D2 w2 (by omega) a2 Mk (by simp only [List.length_append, List.length_cons]; omega)
    refine ⟨D3, w3, by rw [a1, nx, b1], ?_⟩
    rw [disT]
    simp only [List.append_assoc, List.cons_append, List.nil_append] at b2 ⊢
    exact b2
theorem c_instr (S : isSc w0 w t D pl ms) (Y : isBy w0 q a us B) {f o : Nat} {L : List Nat} {T : Nat → Bool} (hf : f < 2 ^ 19) (hn : pl ≤ 120) (ho : o < pl) (hT : ∀ z, T z = true → z < pl) (h10 : B.getD (f + o) 0 ≤ 10) (Mk : lnS f pl L T pl ms) (hl : t.length + (insT B f T (f + o)).length + 1 ≤ 808) : ∃ (D2 : List Nat) (w2 : ex_W), ex_call X 82 [.ref 15, .ref q, .int (nI f), .int (nI o)] w = some (none, w2) ∧ isSc w0 w2 (t ++ insT B f T (f + o) ++ [32]) D2 pl ms := by
  unfold insT at hl ⊢
  simp only [List.length_append] at hl
  have hb0 := Y.2.2.1 (f + o)
  have hb1 := Y.2.2.1 (f + o + 1)
  obtain ⟨w1, a1, S1⟩ := c_word (X := X) (j := 22 + B.getD (f + o) 0) (by omega) S (by unfold opW at hl; omega)
  have wo := c_wordOf (X := X) (w := w) h10
  have cb := c_byte (X := X) (i := f + o) S Y (by omega)
  have cb1 := c_byte (X := X) (i := f + o + 1) S1 Y (by omega)
  have rB := sc_rB S Y
  have rB1 := sc_rB S1 Y
  have rc := sc_rc S
  have rc1 := sc_rc S1
  -- the number behind the word
  have arg : ∃ (D2 : List Nat) (w2 : ex_W), ex_go X 82 22 [(0, .ref 15), (1, .ref q), (2, .int (nI f)), (3, .int (nI o)), (4, .int (nI (f + o))), (5, .int (nI (B.getD (f + o) 0)))] [] w1 = ex_go X 82 67 [(0, .ref 15), (1, .ref q), (3, .int (nI o)), (4, .int (nI (f + o))), (5, .int (nI (B.getD (f + o) 0)))] [] w2 ∧ isSc w0 w2 (t ++ opW (B.getD (f + o) 0) ++ opA B (f + o) ++ [32]) D2 pl ms := by
    unfold opA at hl ⊢
    unfold opW at hl ⊢
    by_cases c1 : B.getD (f + o) 0 = 1
    · have e1 : ¬ ¬ nI (B.getD (f + o) 0) = 1 := by rw [c1]; decide
      rw [if_pos c1, List.length_cons] at hl
      rw [if_pos c1]
      have sg : ex_call X 20 [.ref q, .int (nI (f + o + 1)), .int 1] w1 = some (some (.long (wdN B (f + o + 1) 1)), w1) := c_signed (X := X) (n := 1) (sc_by S1 Y) Y.2.1 Y.2.2.1 (by omega) (by omega) (by omega)
      obtain ⟨D2, w2, b1, b2⟩ := c_number (X := X) (sg := 0) (v := wdN B (f + o + 1) 1) S1 (by decide) (by rw [if_pos rfl]; simp only [List.length_append, List.length_singleton, List.length_nil]; omega)
      refine ⟨D2, w2, ?_, ?_⟩
      · have b1 : ex_call X 72 [.ref 15, .int 0, .long (wdN B (f + o + 1) 1)] w1 = some (none, w2) := b1
        simp (disch := first | assumption | decide) only [s82_22, s82_24, s82_25, s82_28, s82_29, s82_30, s82_31, s82_33, s82_34, s82_35, s82_36, s82_39, s82_42, if_neg e1, nI_1, sg, List.getElem?_cons_zero, List.getElem?_cons_succ, Option.bind_some, Option.toList_some, Option.toList_none, List.cons_append, List.nil_append, b1]
      · rw [if_pos rfl] at b2
        simp only [List.append_assoc, List.cons_append, List.nil_append] at b2 ⊢
        exact b2
    · have e1 : ¬ nI (B.getD (f + o) 0) = 1 := fun z => c1 ((nI_eq (b := 1) (by omega) (by decide)).mp z)
      rw [if_neg c1] at hl ⊢
      by_cases c2 : B.getD (f + o) 0 = 2 ∨ B.getD (f + o) 0 = 8 ∨ B.getD (f + o) 0 = 10
      · rw [if_pos c2, List.length_cons] at hl
        rw [if_pos c2]
        unfold nB at hl ⊢
        have hB : hasB (B.getD (f + o) 0) := by unfold hasB; omega
        have nh := (n_hasByte (X := X) (w := w1) (x := B.getD (f + o) 0) (by omega)).1 hB
        have n1 : ¬ (1 : Int32) = 0 := by decide
        obtain ⟨D2, w2, b1, b2⟩ := c_number (X := X) (sg := 0) (v := (nI (B.getD (f + o + 1) 0)).toInt64) S1 (by decide) (by rw [if_pos rfl]; simp only [List.length_append, List.length_singleton, List.length_nil]; omega)
        refine ⟨D2, w2, ?_, ?_⟩
        · have b1 : ex_call X 72 [.ref 15, .int 0, .long (nI (B.getD (f + o + 1) 0)).toInt64] w1 = some (none, w2) := b1
          simp (disch := first | assumption | decide) only [s82_22, s82_24, s82_25, s82_28, s82_29, s82_30, s82_31, s82_33, s82_34, s82_35, s82_36, s82_39, s82_42, s82_45, s82_47, s82_50, s82_53, s82_54, s82_55, s82_56, s82_58, s82_59, s82_60, s82_63, s82_64, if_pos e1, nh, List.getElem?_cons_zero, List.getElem?_cons_succ, Option.bind_some, Option.toList_some, Option.toList_none, List.cons_append, List.nil_append, if_neg n1, nI_1, cb1, b1]
        · rw [if_pos rfl] at b2
          simp only [List.append_assoc, List.cons_append, List.nil_append] at b2 ⊢
          exact b2
      · rw [if_neg c2]
        have hB : ¬ hasB (B.getD (f + o) 0) := by unfold hasB; omega
        have nh := (n_hasByte (X := X) (w := w1) (x := B.getD (f + o) 0) (by omega)).2 hB
        refine ⟨D, w1, ?_, by rw [List.append_nil]; exact S1⟩
        simp (disch := first | assumption | decide) only [s82_22, s82_24, s82_25, s82_28, s82_29, s82_30, s82_31, s82_33, s82_34, s82_35, s82_36, s82_39, s82_42, s82_45, s82_47, s82_50, s82_53, s82_54, s82_55, s82_56, s82_58, s82_59, s82_60, s82_63, s82_64, if_pos e1, nh, List.getElem?_cons_zero, List.getElem?_cons_succ, Option.bind_some, Option.toList_some, Option.toList_none, List.cons_append, List.nil_append, if_true]
  obtain ⟨D2, w2, b1, S2⟩ := arg
  obtain ⟨D3, w3, d1, S3⟩ := c_distLoop (X := X) (L := L) (T := T) Y hf hn ho hT (distN B (f + o)) 0 _ D2 w2 (by omega) S2 Mk (by simp only [List.length_append]; omega)
  refine ⟨D3, w3, ?_, ?_⟩
  · have dn := n_dist (X := X) (p := f + o) (sc_by S2 Y) Y.2.1 Y.2.2.1 (by omega)
    have hd := n_headOf (X := X) (w := w2) (x := B.getD (f + o) 0) (by omega)
    have d1 : ex_go X 82 88 [(0, .ref 15), (1, .ref q), (3, .int (nI o)), (6, .int (nI (distN B (f + o)))), (7, .int (nI (f + o + headN (B.getD (f + o) 0)))), (8, .int 0)] [] w2 = _ := d1
    show ex_go X 82 0 [(0, .ref 15), (1, .ref q), (2, .int (nI f)), (3, .int (nI o))] [] w = _
    simp (disch := first | assumption | decide) only [s82_0, s82_1, s82_2, s82_3, s82_5, s82_6, s82_8, s82_11, s82_13, s82_14, s82_16, s82_19, nI_add, cb, List.getElem?_cons_zero, List.getElem?_cons_succ, Option.bind_some, Option.toList_some, Option.toList_none, List.cons_append, List.nil_append, wo, a1]
    rw [b1]
    simp (disch := first | assumption | decide) only [s82_67, s82_68, s82_70, s82_73, s82_75, s82_77, s82_79, s82_82, s82_83, s82_85, s82_86, dn, List.getElem?_cons_zero, List.getElem?_cons_succ, Option.bind_some, Option.toList_some, Option.toList_none, List.cons_append, List.nil_append, hd, nI_add, d1]
  · simp only [List.append_assoc, List.cons_append, List.nil_append] at S3 ⊢
    exact S3
end INSTR
