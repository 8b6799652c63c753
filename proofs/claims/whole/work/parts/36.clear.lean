/-! the places where instructions begin; clear of both -/
/-- where the instructions from p to e begin -/
def stL (B : List Nat) (e : Nat) : Nat → Nat → List Nat
  | 0, _ => []
  | k + 1, p => if p < e then p :: (if widN B p e = 0 then [] else stL B e k (p + widN B p e)) else []
/-- a block has at most 38 codes -/
theorem itN_far {B : List Nat} : ∀ (n p : Nat), p + 3 * n ≤ itN B 2 p n := by
  intro n
  induction n with
  | zero => intro p; exact Nat.le_refl _
  | succ n ih =>
    intro p
    have := ih (iEnd B 2 p)
    have e : iEnd B 2 p = p + 3 + B.getD (p + 2) 0 := rfl
    rw [itN]
    omega
theorem codes_lt {B : List Nat} (S : shape B) {c : Nat} (hc : c < B.getD (cP B 2) 0) : c < 40 := by
  have hs := S.2.2.2.1 2 (by omega)
  have h1 := (hs.2.2 c hc).1
  have h2 := iEnd_gt B 2 (itN B 2 (cP B 2 + 1) c)
  have h3 := itN_far (B := B) c (cP B 2 + 1)
  have := S.2.2.1
  omega
section CLEAR
variable {X : Option (List Int32)} {w : ex_W} {m : Nat → Int32} {v : Int64} {bs : List Int32} {B : List Nat} {p e part : Nat}
theorem y_sizeOf (M : isB w m v bs B) (he : e ≤ B.length) (hp : p < e) : ∃ s : Nat, ex_call X 119 [.ref 32, .int (nI p), .int (nI e)] w = some (some (.int (nI s)), w) ∧ s ≤ 600 ∧ widN B p e = if 0 < s ∧ p + s ≤ e then s else 0 := by
  have g := ex_gf_i (k := 0) M.1
  rw [mo_0] at g
  have hbl : B.length ≤ 130 := by have := M.2.2.2.1.1; have := M.2.2.1; omega
  have h0 := y_blk M (p := p) (by omega)
  have hb1 := M.2.2.2.2 (p + 1)
  have hb0 := M.2.2.2.2 p
  have sz : ∀ s : Nat, B.getD p 0 ≤ 10 → headN (B.getD p 0) + 2 * distN B p = s → 0 < s → widN B p e = if 0 < s ∧ p + s ≤ e then s else 0 := by
    intro s h1 h2 h3
    unfold widN
    rw [if_pos h1, h2]
    by_cases c : p + s ≤ e
    · rw [if_pos c, if_pos ⟨h3, c⟩]
    · rw [if_neg c, if_neg (fun z => c z.2)]
  have go : ex_call X 119 [.ref 32, .int (nI p), .int (nI e)] w = ex_go X 119 7 [(0, .ref 32), (1, .int (nI p)), (2, .int (nI e)), (3, .int (nI (B.getD p 0)))] [] w := by
    show ex_go X 119 0 [(0, .ref 32), (1, .int (nI p)), (2, .int (nI e))] [] w = _
    simp (disch := first | assumption | decide) only [s119_0, s119_1, s119_4, s119_5, s119_6, g, List.getElem?_cons_zero, List.getElem?_cons_succ, Option.bind_some, Option.toList_some, Option.toList_none, List.cons_append, List.nil_append, h0]
  rw [go]
  by_cases c11 : B.getD p 0 ≤ 10
  · by_cases c10 : B.getD p 0 = 10
    · by_cases c : p + 1 < e
      · have h1 := y_blk M (p := p + 1) (by omega)
        have e1 : ¬ nI e ≤ nI (p + 1) := nI_ge c (by omega)
        refine ⟨2 + 2 * B.getD (p + 1) 0, ?_, by omega, sz _ c11 (by unfold distN headN; rw [c10]; rfl) (by omega)⟩
        rw [c10]
        simp (disch := first | assumption | decide) only [s119_0, s119_1, s119_4, s119_5, s119_6, s119_7, s119_8, s119_11, s119_12, s119_13, s119_16, s119_17, s119_18, s119_21, s119_22, s119_23, s119_26, s119_27, s119_29, s119_32, s119_33, s119_34, s119_35, s119_36, s119_39, s119_40, s119_41, s119_44, s119_45, s119_47, s119_50, s119_51, s119_52, s119_53, s119_55, s119_58, s119_59, s119_61, s119_64, s119_65, s119_66, s119_67, s119_69, s119_72, s119_73, s119_74, s119_75, s119_76, s119_79, s119_80, s119_81, s119_82, s119_85, s119_86, s119_87, s119_88, s119_89, s119_90, s119_91, s119_94, s119_95, if_pos, if_neg, g, List.getElem?_cons_zero, List.getElem?_cons_succ, Option.bind_some, Option.toList_some, Option.toList_none, List.cons_append, List.nil_append, nI_1, e1, h1, if_false]
        rw [L2, pk_mul, nI_add]
      · have e1 : nI e ≤ nI (p + 1) := nI_le (by omega) (by omega)
        refine ⟨0, ?_, by omega, ?_⟩
        · rw [c10]
          simp (disch := first | assumption | decide) only [s119_0, s119_1, s119_4, s119_5, s119_6, s119_7, s119_8, s119_11, s119_12, s119_13, s119_16, s119_17, s119_18, s119_21, s119_22, s119_23, s119_26, s119_27, s119_29, s119_32, s119_33, s119_34, s119_35, s119_36, s119_39, s119_40, s119_41, s119_44, s119_45, s119_47, s119_50, s119_51, s119_52, s119_53, s119_55, s119_58, s119_59, s119_61, s119_64, s119_65, s119_66, s119_67, s119_69, s119_72, s119_73, s119_74, s119_75, s119_76, s119_79, s119_80, s119_81, s119_82, s119_85, s119_86, s119_87, s119_88, s119_89, s119_90, s119_91, s119_94, s119_95, if_pos, if_neg, g, List.getElem?_cons_zero, List.getElem?_cons_succ, Option.bind_some, Option.toList_some, Option.toList_none, List.cons_append, List.nil_append, nI_1, e1, if_true]
          rfl
        · have hw : widN B p e = 0 := by
            unfold widN
            rw [if_pos c11, if_neg]
            rw [c10]
            have : headN 10 = 2 := rfl
            omega
          rw [hw, if_neg (by omega)]
    · have cs : B.getD p 0 = 0 ∨ B.getD p 0 = 1 ∨ B.getD p 0 = 2 ∨ B.getD p 0 = 3 ∨ B.getD p 0 = 4 ∨ B.getD p 0 = 5 ∨ B.getD p 0 = 6 ∨ B.getD p 0 = 7 ∨ B.getD p 0 = 8 ∨ B.getD p 0 = 9 := by omega
      rcases cs with q | q | q | q | q | q | q | q | q | q
      · refine ⟨1, ?_, by omega, sz _ c11 (by unfold distN headN; rw [q]; rfl) (by omega)⟩
        rw [q]
        simp (disch := first | assumption | decide) only [s119_0, s119_1, s119_4, s119_5, s119_6, s119_7, s119_8, s119_11, s119_12, s119_13, s119_16, s119_17, s119_18, s119_21, s119_22, s119_23, s119_26, s119_27, s119_29, s119_32, s119_33, s119_34, s119_35, s119_36, s119_39, s119_40, s119_41, s119_44, s119_45, s119_47, s119_50, s119_51, s119_52, s119_53, s119_55, s119_58, s119_59, s119_61, s119_64, s119_65, s119_66, s119_67, s119_69, s119_72, s119_73, s119_74, s119_75, s119_76, s119_79, s119_80, s119_81, s119_82, s119_85, s119_86, s119_87, s119_88, s119_89, s119_90, s119_91, s119_94, s119_95, if_pos, if_neg]
        rfl
      · refine ⟨2, ?_, by omega, sz _ c11 (by unfold distN headN; rw [q]; rfl) (by omega)⟩
        rw [q]
        simp (disch := first | assumption | decide) only [s119_0, s119_1, s119_4, s119_5, s119_6, s119_7, s119_8, s119_11, s119_12, s119_13, s119_16, s119_17, s119_18, s119_21, s119_22, s119_23, s119_26, s119_27, s119_29, s119_32, s119_33, s119_34, s119_35, s119_36, s119_39, s119_40, s119_41, s119_44, s119_45, s119_47, s119_50, s119_51, s119_52, s119_53, s119_55, s119_58, s119_59, s119_61, s119_64, s119_65, s119_66, s119_67, s119_69, s119_72, s119_73, s119_74, s119_75, s119_76, s119_79, s119_80, s119_81, s119_82, s119_85, s119_86, s119_87, s119_88, s119_89, s119_90, s119_91, s119_94, s119_95, if_pos, if_neg]
        rfl
      · refine ⟨2, ?_, by omega, sz _ c11 (by unfold distN headN; rw [q]; rfl) (by omega)⟩
        rw [q]
        simp (disch := first | assumption | decide) only [s119_0, s119_1, s119_4, s119_5, s119_6, s119_7, s119_8, s119_11, s119_12, s119_13, s119_16, s119_17, s119_18, s119_21, s119_22, s119_23, s119_26, s119_27, s119_29, s119_32, s119_33, s119_34, s119_35, s119_36, s119_39, s119_40, s119_41, s119_44, s119_45, s119_47, s119_50, s119_51, s119_52, s119_53, s119_55, s119_58, s119_59, s119_61, s119_64, s119_65, s119_66, s119_67, s119_69, s119_72, s119_73, s119_74, s119_75, s119_76, s119_79, s119_80, s119_81, s119_82, s119_85, s119_86, s119_87, s119_88, s119_89, s119_90, s119_91, s119_94, s119_95, if_pos, if_neg]
        rfl
      · refine ⟨1, ?_, by omega, sz _ c11 (by unfold distN headN; rw [q]; rfl) (by omega)⟩
        rw [q]
        simp (disch := first | assumption | decide) only [s119_0, s119_1, s119_4, s119_5, s119_6, s119_7, s119_8, s119_11, s119_12, s119_13, s119_16, s119_17, s119_18, s119_21, s119_22, s119_23, s119_26, s119_27, s119_29, s119_32, s119_33, s119_34, s119_35, s119_36, s119_39, s119_40, s119_41, s119_44, s119_45, s119_47, s119_50, s119_51, s119_52, s119_53, s119_55, s119_58, s119_59, s119_61, s119_64, s119_65, s119_66, s119_67, s119_69, s119_72, s119_73, s119_74, s119_75, s119_76, s119_79, s119_80, s119_81, s119_82, s119_85, s119_86, s119_87, s119_88, s119_89, s119_90, s119_91, s119_94, s119_95, if_pos, if_neg]
        rfl
      · refine ⟨1, ?_, by omega, sz _ c11 (by unfold distN headN; rw [q]; rfl) (by omega)⟩
        rw [q]
        simp (disch := first | assumption | decide) only [s119_0, s119_1, s119_4, s119_5, s119_6, s119_7, s119_8, s119_11, s119_12, s119_13, s119_16, s119_17, s119_18, s119_21, s119_22, s119_23, s119_26, s119_27, s119_29, s119_32, s119_33, s119_34, s119_35, s119_36, s119_39, s119_40, s119_41, s119_44, s119_45, s119_47, s119_50, s119_51, s119_52, s119_53, s119_55, s119_58, s119_59, s119_61, s119_64, s119_65, s119_66, s119_67, s119_69, s119_72, s119_73, s119_74, s119_75, s119_76, s119_79, s119_80, s119_81, s119_82, s119_85, s119_86, s119_87, s119_88, s119_89, s119_90, s119_91, s119_94, s119_95, if_pos, if_neg]
        rfl
      · refine ⟨1, ?_, by omega, sz _ c11 (by unfold distN headN; rw [q]; rfl) (by omega)⟩
        rw [q]
        simp (disch := first | assumption | decide) only [s119_0, s119_1, s119_4, s119_5, s119_6, s119_7, s119_8, s119_11, s119_12, s119_13, s119_16, s119_17, s119_18, s119_21, s119_22, s119_23, s119_26, s119_27, s119_29, s119_32, s119_33, s119_34, s119_35, s119_36, s119_39, s119_40, s119_41, s119_44, s119_45, s119_47, s119_50, s119_51, s119_52, s119_53, s119_55, s119_58, s119_59, s119_61, s119_64, s119_65, s119_66, s119_67, s119_69, s119_72, s119_73, s119_74, s119_75, s119_76, s119_79, s119_80, s119_81, s119_82, s119_85, s119_86, s119_87, s119_88, s119_89, s119_90, s119_91, s119_94, s119_95, if_pos, if_neg]
        rfl
      · refine ⟨3, ?_, by omega, sz _ c11 (by unfold distN headN; rw [q]; rfl) (by omega)⟩
        rw [q]
        simp (disch := first | assumption | decide) only [s119_0, s119_1, s119_4, s119_5, s119_6, s119_7, s119_8, s119_11, s119_12, s119_13, s119_16, s119_17, s119_18, s119_21, s119_22, s119_23, s119_26, s119_27, s119_29, s119_32, s119_33, s119_34, s119_35, s119_36, s119_39, s119_40, s119_41, s119_44, s119_45, s119_47, s119_50, s119_51, s119_52, s119_53, s119_55, s119_58, s119_59, s119_61, s119_64, s119_65, s119_66, s119_67, s119_69, s119_72, s119_73, s119_74, s119_75, s119_76, s119_79, s119_80, s119_81, s119_82, s119_85, s119_86, s119_87, s119_88, s119_89, s119_90, s119_91, s119_94, s119_95, if_pos, if_neg]
        rfl
      · refine ⟨3, ?_, by omega, sz _ c11 (by unfold distN headN; rw [q]; rfl) (by omega)⟩
        rw [q]
        simp (disch := first | assumption | decide) only [s119_0, s119_1, s119_4, s119_5, s119_6, s119_7, s119_8, s119_11, s119_12, s119_13, s119_16, s119_17, s119_18, s119_21, s119_22, s119_23, s119_26, s119_27, s119_29, s119_32, s119_33, s119_34, s119_35, s119_36, s119_39, s119_40, s119_41, s119_44, s119_45, s119_47, s119_50, s119_51, s119_52, s119_53, s119_55, s119_58, s119_59, s119_61, s119_64, s119_65, s119_66, s119_67, s119_69, s119_72, s119_73, s119_74, s119_75, s119_76, s119_79, s119_80, s119_81, s119_82, s119_85, s119_86, s119_87, s119_88, s119_89, s119_90, s119_91, s119_94, s119_95, if_pos, if_neg]
        rfl
      · refine ⟨2, ?_, by omega, sz _ c11 (by unfold distN headN; rw [q]; rfl) (by omega)⟩
        rw [q]
        simp (disch := first | assumption | decide) only [s119_0, s119_1, s119_4, s119_5, s119_6, s119_7, s119_8, s119_11, s119_12, s119_13, s119_16, s119_17, s119_18, s119_21, s119_22, s119_23, s119_26, s119_27, s119_29, s119_32, s119_33, s119_34, s119_35, s119_36, s119_39, s119_40, s119_41, s119_44, s119_45, s119_47, s119_50, s119_51, s119_52, s119_53, s119_55, s119_58, s119_59, s119_61, s119_64, s119_65, s119_66, s119_67, s119_69, s119_72, s119_73, s119_74, s119_75, s119_76, s119_79, s119_80, s119_81, s119_82, s119_85, s119_86, s119_87, s119_88, s119_89, s119_90, s119_91, s119_94, s119_95, if_pos, if_neg]
        rfl
      · refine ⟨1, ?_, by omega, sz _ c11 (by unfold distN headN; rw [q]; rfl) (by omega)⟩
        rw [q]
        simp (disch := first | assumption | decide) only [s119_0, s119_1, s119_4, s119_5, s119_6, s119_7, s119_8, s119_11, s119_12, s119_13, s119_16, s119_17, s119_18, s119_21, s119_22, s119_23, s119_26, s119_27, s119_29, s119_32, s119_33, s119_34, s119_35, s119_36, s119_39, s119_40, s119_41, s119_44, s119_45, s119_47, s119_50, s119_51, s119_52, s119_53, s119_55, s119_58, s119_59, s119_61, s119_64, s119_65, s119_66, s119_67, s119_69, s119_72, s119_73, s119_74, s119_75, s119_76, s119_79, s119_80, s119_81, s119_82, s119_85, s119_86, s119_87, s119_88, s119_89, s119_90, s119_91, s119_94, s119_95, if_pos, if_neg]
        rfl
  · have ne : ∀ k : Nat, k ≤ 10 → (nI (B.getD p 0) = nI k) = False := fun k hk => eq_false (fun z => absurd ((nI_eq (by omega) (by omega)).mp z) (by omega))
    have n0 : (nI (B.getD p 0) = 0) = False := ne 0 (by omega)
    have n1 : (nI (B.getD p 0) = 1) = False := ne 1 (by omega)
    have n2 : (nI (B.getD p 0) = 2) = False := ne 2 (by omega)
    have n3 : (nI (B.getD p 0) = 3) = False := ne 3 (by omega)
    have n4 : (nI (B.getD p 0) = 4) = False := ne 4 (by omega)
    have n5 : (nI (B.getD p 0) = 5) = False := ne 5 (by omega)
    have n6 : (nI (B.getD p 0) = 6) = False := ne 6 (by omega)
    have n7 : (nI (B.getD p 0) = 7) = False := ne 7 (by omega)
    have n8 : (nI (B.getD p 0) = 8) = False := ne 8 (by omega)
    have n9 : (nI (B.getD p 0) = 9) = False := ne 9 (by omega)
    have n10 : (nI (B.getD p 0) = 10) = False := ne 10 (by omega)
    refine ⟨0, ?_, by omega, ?_⟩
    · simp (disch := first | assumption | decide) only [s119_0, s119_1, s119_4, s119_5, s119_6, s119_7, s119_8, s119_11, s119_12, s119_13, s119_16, s119_17, s119_18, s119_21, s119_22, s119_23, s119_26, s119_27, s119_29, s119_32, s119_33, s119_34, s119_35, s119_36, s119_39, s119_40, s119_41, s119_44, s119_45, s119_47, s119_50, s119_51, s119_52, s119_53, s119_55, s119_58, s119_59, s119_61, s119_64, s119_65, s119_66, s119_67, s119_69, s119_72, s119_73, s119_74, s119_75, s119_76, s119_79, s119_80, s119_81, s119_82, s119_85, s119_86, s119_87, s119_88, s119_89, s119_90, s119_91, s119_94, s119_95, n0, n1, n2, n3, n4, n5, n6, n7, n8, n9, n10, if_true, if_false, not_false_eq_true]
      rfl
    · unfold widN
      rw [if_neg c11, if_neg (by omega)]
/-- an array of truths -/
def isT (w : ex_W) (a : Nat) (xs : List Int32) (c : Nat) : Prop := w[a]? = some (.inr (1, xs)) ∧ xs.length = c
theorem y_falses (M : isB w m v bs B) {xs0 : List Int32} (hT : w[39]? = some (.inr (1, xs0))) {n : Nat} (hn : n ≤ 120) {l3 l4 : Int32} : ∀ (k i : Nat) (xs : List Int32), i + k = n + 1 → xs.length = 121 → (∀ j, j < i → xs.getD j 0 = 0) → ∃ zs : List Int32, zs.length = 121 ∧ (∀ j, j ≤ n → zs.getD j 0 = 0) ∧ ex_go X 118 8 [(0, .ref 32), (1, .int (nI p)), (2, .int (nI n)), (3, .int l3), (4, .int l4), (5, .int (nI i))] [] (w.set 39 (.inr (1, xs))) = ex_go X 118 28 [(0, .ref 32), (1, .int (nI p)), (2, .int (nI n)), (3, .int l3), (4, .int l4)] [] (w.set 39 (.inr (1, zs))) := by
  intro k
  induction k with
  | zero =>
    intro i xs hi hx h0
    have e1 : nI n < nI i := nI_lt (by omega) (by omega)
    refine ⟨xs, hx, fun j hj => h0 j (by omega), ?_⟩
    simp (disch := first | assumption | decide) only [s118_8, s118_10, s118_11, if_pos e1]
  | succ k ih =>
    intro i xs hi hx h0
    have e1 : ¬ nI n < nI i := nI_nlt (by omega) (by omega)
    obtain ⟨zs, z1, z2, z3⟩ := ih (i + 1) (xs.set i 0) (by omega) (by rw [List.length_set]; exact hx) (by
      intro j hj
      rw [set_get (by omega)]
      split
      next => rfl
      next q => exact h0 j (by omega))
    refine ⟨zs, z1, z2, ?_⟩
    have g : ex_gf (w.set 39 (.inr (1, xs))) 32 8 11 = some (.ref 39) := ex_gf_i (ex_set_o (by decide) M.1)
    have a := ex_as_i (w := w.set 39 (.inr (1, xs))) (a := 39) (kd := 1) (xs := xs) (n := i) (x := 0) (ex_set_s hT) (by omega) (by omega)
    rw [List.set_set] at a
    rw [s118_8]
    simp (disch := first | assumption | decide) only [s118_10, s118_11, s118_14, s118_15, s118_18, s118_20, s118_21, s118_22, s118_25, if_neg e1, g, List.getElem?_cons_zero, List.getElem?_cons_succ, Option.bind_some, Option.toList_some, Option.toList_none, List.cons_append, List.nil_append, a, nI_1]
    exact z3
theorem y_isClearLoop (M : isB w m v bs B) {xs0 : List Int32} (hT : w[39]? = some (.inr (1, xs0))) {n a : Nat} (hn : n ≤ 120) (he : a + n ≤ B.length) : ∀ (k p : Nat) (xs : List Int32), p ≤ a + n → a + n - p ≤ k → a ≤ p → xs.length = 121 → ∃ zs : List Int32, zs.length = 121 ∧ (∀ j, j < 121 → zs.getD j 0 = if a + j ∈ stL B (a + n) k p then 1 else xs.getD j 0) ∧ ex_go X 118 28 [(0, .ref 32), (1, .int (nI a)), (2, .int (nI n)), (3, .int (nI p)), (4, .int 1)] [] (w.set 39 (.inr (1, xs))) = some (some (.int (if clrN B (a + n) k p = true then 1 else 0)), w.set 39 (.inr (1, zs))) := by
  have hbl : B.length ≤ 130 := by have := M.2.2.2.1.1; have := M.2.2.1; omega
  have n1 : ¬ (1 : Int32) = 0 := by decide
  have fin : ∀ (k p : Nat) (xs : List Int32), p = a + n → xs.length = 121 → ex_go X 118 28 [(0, .ref 32), (1, .int (nI a)), (2, .int (nI n)), (3, .int (nI p)), (4, .int 1)] [] (w.set 39 (.inr (1, xs))) = some (some (.int (if clrN B (a + n) k p = true then 1 else 0)), w.set 39 (.inr (1, xs))) := by
    intro k p xs hp hx
    have e1 : nI (a + n) ≤ nI p := nI_le (by omega) (by omega)
    have e2 : clrN B (a + n) k p = true := by
      cases k with
      | zero => exact decide_eq_true hp
      | succ k => rw [clrN, if_neg (by omega)]; exact decide_eq_true hp
    simp (disch := first | assumption | decide) only [s118_28, s118_30, s118_33, s118_34, s118_35, s118_36, s118_37, s118_89, s118_91, if_neg n1, nI_add, if_pos e1, e2, if_true]
  intro k
  induction k with
  | zero =>
    intro p xs h1 h2 h3 hx
    refine ⟨xs, hx, fun j _ => ?_, fin 0 p xs (by omega) hx⟩
    rw [stL, if_neg (by simp)]
  | succ k ih =>
    intro p xs h1 h2 h3 hx
    by_cases c : p < a + n
    · have e1 : ¬ nI (a + n) ≤ nI p := nI_ge c (by omega)
      have MT : isB (w.set 39 (.inr (1, xs))) m v bs B := ⟨ex_set_o (by decide) M.1, ex_set_o (by decide) M.2.1, M.2.2⟩
      obtain ⟨s, s1, s2, s3⟩ := y_sizeOf (X := X) MT he c
      have rc := y_rcB MT
      have g : ex_gf (w.set 39 (.inr (1, xs))) 32 8 11 = some (.ref 39) := ex_gf_i MT.1
      have as := ex_as_i (w := w.set 39 (.inr (1, xs))) (a := 39) (kd := 1) (xs := xs) (n := p - a) (x := 1) (ex_set_s hT) (by omega) (by omega)
      rw [List.set_set] at as
      have sub : nI p - nI a = nI (p - a) := pk_sub h3
      have hl : (xs.set (p - a) 1).length = 121 := by rw [List.length_set]; exact hx
      have fill : ∀ q : Nat, ex_go X 118 70 [(0, .ref 32), (1, .int (nI a)), (2, .int (nI n)), (3, .int (nI p)), (5, .int (nI s))] [.int (nI q)] (w.set 39 (.inr (1, xs))) = ex_go X 118 28 [(0, .ref 32), (1, .int (nI a)), (2, .int (nI n)), (3, .int (nI (p + s))), (4, .int (nI q))] [] (w.set 39 (.inr (1, xs.set (p - a) 1))) := by
        intro q
        simp (disch := first | assumption | decide) only [s118_70, s118_72, s118_73, s118_76, s118_77, s118_78, s118_79, s118_80, s118_81, s118_82, s118_84, s118_85, s118_86, g, List.getElem?_cons_zero, List.getElem?_cons_succ, Option.bind_some, Option.toList_some, Option.toList_none, List.cons_append, List.nil_append, sub, as, nI_add]
      by_cases f : 0 < s ∧ p + s ≤ a + n
      · rw [if_pos f] at s3
        obtain ⟨zs, z1, z2, z3⟩ := ih (p + s) (xs.set (p - a) 1) f.2 (by omega) (by omega) hl
        refine ⟨zs, z1, fun j hj => ?_, ?_⟩
        · have s0 : ¬ s = 0 := by omega
          have eL : stL B (a + n) (k + 1) p = p :: stL B (a + n) k (p + s) := by rw [stL, if_pos c, s3, if_neg s0]
          rw [z2 j hj, set_get (by omega), eL]
          by_cases d1 : a + j ∈ stL B (a + n) k (p + s)
          · rw [if_pos d1, if_pos (List.mem_cons_of_mem _ d1)]
          · rw [if_neg d1]
            by_cases d2 : p - a = j
            · rw [if_pos d2, if_pos (by rw [show a + j = p by omega]; exact List.mem_cons_self)]
            · rw [if_neg d2, if_neg]
              intro z
              rcases List.mem_cons.mp z with z | z
              · omega
              · exact d1 z
        · have e2 : ¬ nI s ≤ 0 := nI_ge (a := 0) f.1 (by omega)
          have e3 : ¬ nI (a + n) < nI (p + s) := nI_nlt f.2 (by omega)
          have ec : clrN B (a + n) (k + 1) p = clrN B (a + n) k (p + s) := by
            rw [clrN, if_pos c, s3, if_neg (by omega)]
          have fl := fill 1
          have fl : ex_go X 118 70 [(0, .ref 32), (1, .int (nI a)), (2, .int (nI n)), (3, .int (nI p)), (5, .int (nI s))] [.int 1] (w.set 39 (.inr (1, xs))) = ex_go X 118 28 [(0, .ref 32), (1, .int (nI a)), (2, .int (nI n)), (3, .int (nI (p + s))), (4, .int 1)] [] (w.set 39 (.inr (1, xs.set (p - a) 1))) := fl
          rw [ec, ← z3, ← fl, s118_28]
          simp (disch := first | assumption | decide) only [s118_30, s118_33, s118_34, s118_35, s118_36, s118_37, s118_40, s118_41, s118_42, s118_43, s118_44, s118_45, s118_48, s118_50, s118_52, s118_55, s118_56, s118_58, s118_59, s118_60, s118_61, s118_62, s118_65, s118_66, if_neg n1, nI_add, if_neg e1, s1, List.getElem?_cons_zero, List.getElem?_cons_succ, Option.bind_some, Option.toList_some, Option.toList_none, List.cons_append, List.nil_append, if_neg e2, if_neg e3]
      · rw [if_neg f] at s3
        refine ⟨xs.set (p - a) 1, hl, fun j hj => ?_, ?_⟩
        · rw [set_get (by omega), stL, if_pos c, if_pos s3]
          by_cases d2 : p - a = j
          · rw [if_pos d2, if_pos (by rw [show a + j = p by omega]; exact List.mem_cons_self)]
          · rw [if_neg d2, if_neg]
            intro z
            rcases List.mem_cons.mp z with z | z
            · omega
            · cases z
        · have ec : clrN B (a + n) (k + 1) p = false := by
            rw [clrN, if_pos c, s3, if_pos rfl]
          have fl := fill 0
          have e69 : ex_go X 118 69 [(0, .ref 32), (1, .int (nI a)), (2, .int (nI n)), (3, .int (nI p)), (5, .int (nI s))] [] (w.set 39 (.inr (1, xs))) = some (some (.int 0), w.set 39 (.inr (1, xs.set (p - a) 1))) := by
            have fl : ex_go X 118 70 [(0, .ref 32), (1, .int (nI a)), (2, .int (nI n)), (3, .int (nI p)), (5, .int (nI s))] [.int 0] (w.set 39 (.inr (1, xs))) = ex_go X 118 28 [(0, .ref 32), (1, .int (nI a)), (2, .int (nI n)), (3, .int (nI (p + s))), (4, .int 0)] [] (w.set 39 (.inr (1, xs.set (p - a) 1))) := fl
            rw [s118_69, fl]
            simp (disch := first | assumption | decide) only [s118_28, s118_30, s118_89, s118_91, if_true]
          rw [ec, if_neg (by decide), s118_28]
          by_cases d : 0 < s
          · have e2 : ¬ nI s ≤ 0 := nI_ge (a := 0) d (by omega)
            have e3 : nI (a + n) < nI (p + s) := nI_lt (by omega) (by omega)
            simp (disch := first | assumption | decide) only [s118_30, s118_33, s118_34, s118_35, s118_36, s118_37, s118_40, s118_41, s118_42, s118_43, s118_44, s118_45, s118_48, s118_50, s118_52, s118_55, s118_56, s118_58, s118_59, s118_60, s118_61, s118_62, s118_65, s118_66, if_neg n1, nI_add, if_neg e1, s1, List.getElem?_cons_zero, List.getElem?_cons_succ, Option.bind_some, Option.toList_some, Option.toList_none, List.cons_append, List.nil_append, if_neg e2, if_pos e3, e69]
          · have e2 : nI s ≤ 0 := nI_le (b := 0) (by omega) (by decide)
            simp (disch := first | assumption | decide) only [s118_30, s118_33, s118_34, s118_35, s118_36, s118_37, s118_40, s118_41, s118_42, s118_43, s118_44, s118_45, s118_48, s118_50, s118_52, s118_55, s118_56, s118_58, s118_59, s118_60, s118_61, s118_62, s118_65, s118_66, if_neg n1, nI_add, if_neg e1, s1, List.getElem?_cons_zero, List.getElem?_cons_succ, Option.bind_some, Option.toList_some, Option.toList_none, List.cons_append, List.nil_append, if_pos e2, e69]
    · refine ⟨xs, hx, fun j _ => ?_, fin (k + 1) p xs (by omega) hx⟩
      rw [stL, if_neg c, if_neg (by simp)]
theorem y_isClear (M : isB w m v bs B) {xs0 : List Int32} (hT : w[39]? = some (.inr (1, xs0))) (hx : xs0.length = 121) {n a : Nat} (hn : n ≤ 120) (he : a + n ≤ B.length) : ∃ zs : List Int32, zs.length = 121 ∧ (∀ j, j ≤ n → zs.getD j 0 = if a + j ∈ stL B (a + n) 120 a then 1 else 0) ∧ ex_call X 118 [.ref 32, .int (nI a), .int (nI n)] w = some (some (.int (if clrN B (a + n) 120 a = true then 1 else 0)), w.set 39 (.inr (1, zs))) := by
  obtain ⟨xs, x1, x2, x3⟩ := y_falses (X := X) (p := a) (l3 := nI a) (l4 := 1) M hT hn (n + 1) 0 xs0 (by omega) hx (fun j hj => by omega)
  obtain ⟨zs, z1, z2, z3⟩ := y_isClearLoop (X := X) M hT hn he 120 a xs (by omega) (by omega) (by omega) x1
  refine ⟨zs, z1, fun j hj => ?_, ?_⟩
  · rw [z2 j (by omega), x2 j hj]
  · rw [z3, set_id hT] at x3
    have x3 : ex_go X 118 8 [(0, .ref 32), (1, .int (nI a)), (2, .int (nI n)), (3, .int (nI a)), (4, .int 1), (5, .int 0)] [] w = _ := x3
    show ex_go X 118 0 [(0, .ref 32), (1, .int (nI a)), (2, .int (nI n))] [] w = _
    simp (disch := first | assumption | decide) only [s118_0, s118_1, s118_2, s118_3, s118_5, s118_6, x3]
/-- what clear answers -/
def clrA (B : List Nat) (a : Int32) : Int32 := if a < 0 then -1 else if a < nI (B.getD (cP B 2) 0) then (if clearN B (itN B 2 (cP B 2 + 1) a.toNatClampNeg) = true then 1 else 0) else -1
theorem y_clearLoop (M : isB w m v bs B) (S : shape B) {c : Nat} (hc : c < B.getD (cP B 2) 0) : ∀ (k i p : Nat), i + k = c → p = itN B 2 (cP B 2 + 1) i → ex_go X 167 25 [(0, .ref 32), (1, .int (nI c)), (2, .int (nI p)), (3, .int (nI i))] [] w = ex_go X 167 43 [(0, .ref 32), (2, .int (nI (itN B 2 (cP B 2 + 1) c)))] [] w := by
  have rc := y_rcB M
  have hb := M.2.2.2.2 (cP B 2)
  intro k
  induction k with
  | zero =>
    intro i p hi hp
    have e : nI c ≤ nI i := nI_le (by omega) (by omega)
    have hi : i = c := by omega
    simp (disch := first | assumption | decide) only [s167_25, s167_26, s167_27, if_pos e]
    rw [hp, hi]
  | succ k ih =>
    intro i p hi hp
    have e : ¬ nI c ≤ nI i := nI_ge (by omega) (by omega)
    have ok := (S.2.2.2.1 2 (by omega)).2.2 i (by omega)
    rw [← hp] at ok
    have sk := y_skip (X := X) (part := 2) M (by omega) ok.1
    have sk : ex_call X 166 [.ref 32, .int 2, .int (nI p)] w = _ := sk
    rw [s167_25]
    simp (disch := first | assumption | decide) only [s167_26, s167_27, s167_30, s167_31, s167_32, s167_33, s167_36, s167_37, s167_40, if_neg e, sk, List.getElem?_cons_zero, List.getElem?_cons_succ, Option.bind_some, Option.toList_some, Option.toList_none, List.cons_append, List.nil_append, nI_1]
    exact ih (i + 1) _ (by omega) (by rw [itN_succ, hp])
theorem y_clear {a : Int32} (M : isB w m v bs B) (S : shape B) {xs0 : List Int32} (hT : w[39]? = some (.inr (1, xs0))) (hx : xs0.length = 121) : ∃ zs : List Int32, zs.length = 121 ∧ ex_call X 167 [.ref 32, .int a] w = some (some (.int (clrA B a)), w.set 39 (.inr (1, zs))) := by
  have g := ex_gf_i (k := 0) M.1
  rw [mo_0] at g
  have rc := y_rcB M
  have hb := M.2.2.2.2 (cP B 2)
  have cn : ex_call X 164 [.ref 32, .int 2] w = some (some (.int (nI (B.getD (cP B 2) 0))), w) := y_count (X := X) (a := 2) M S
  have pa : ex_call X 165 [.ref 32, .int 2] w = some (some (.int (nI (cP B 2))), w) := y_partAt (X := X) (pt := 2) M S (by omega)
  unfold clrA
  by_cases c1 : a < 0
  · refine ⟨xs0, hx, ?_⟩
    show ex_go X 167 0 [(0, .ref 32), (1, .int a)] [] w = _
    rw [set_id hT]
    simp (disch := first | assumption | decide) only [s167_0, s167_1, s167_4, s167_5, s167_6, s167_7, s167_10, s167_13, s167_14, if_pos c1]
  · by_cases c2 : a < nI (B.getD (cP B 2) 0)
    · obtain ⟨c, hc, rfl⟩ := nI_of c1
      have c3 : c < B.getD (cP B 2) 0 := (nI_ltI hc (by omega)).mp c2
      have lp := y_clearLoop (X := X) M S c3 c 0 _ (by omega) rfl
      have ok := (S.2.2.2.1 2 (by omega)).2.2 c c3
      have hq := ok.1
      have eq : iEnd B 2 (itN B 2 (cP B 2 + 1) c) = itN B 2 (cP B 2 + 1) c + 3 + B.getD (itN B 2 (cP B 2 + 1) c + 2) 0 := rfl
      have hBl := S.2.2.1
      have h2 := y_blk M (p := itN B 2 (cP B 2 + 1) c + 2) (by omega)
      obtain ⟨zs, z1, -, z3⟩ := y_isClear (X := X) M hT hx (n := B.getD (itN B 2 (cP B 2 + 1) c + 2) 0) (a := itN B 2 (cP B 2 + 1) c + 3) (by omega) (by omega)
      refine ⟨zs, z1, ?_⟩
      show ex_go X 167 0 [(0, .ref 32), (1, .int (nI c))] [] w = _
      have lp : ex_go X 167 25 [(0, .ref 32), (1, .int (nI c)), (2, .int (nI (cP B 2 + 1))), (3, .int 0)] [] w = _ := lp
      have ec : clrN B (itN B 2 (cP B 2 + 1) c + 3 + B.getD (itN B 2 (cP B 2 + 1) c + 2) 0) 120 (itN B 2 (cP B 2 + 1) c + 3) = clearN B (itN B 2 (cP B 2 + 1) c) := rfl
      rw [ec] at z3
      simp (disch := first | assumption | decide) only [s167_0, s167_1, s167_4, s167_5, s167_6, s167_7, s167_10, s167_13, s167_14, s167_15, s167_16, s167_17, s167_20, s167_21, s167_22, s167_23, s167_24, s167_43, s167_44, s167_45, s167_46, s167_47, s167_48, s167_51, s167_52, s167_53, s167_54, s167_55, s167_58, s167_61, s167_62, s167_65, s167_66, if_neg c1, if_pos c2, cn, List.getElem?_cons_zero, List.getElem?_cons_succ, Option.bind_some, Option.toList_some, Option.toList_none, List.cons_append, List.nil_append, pa, nI_1, lp, g, nI_2, nI_3, h2, z3, nI_clamp hc]
      by_cases d : clearN B (itN B 2 (cP B 2 + 1) c) = true
      · have n1 : ¬ (1 : Int32) = 0 := by decide
        simp only [if_pos d, if_neg n1]
      · simp only [if_neg d, if_true]
    · refine ⟨xs0, hx, ?_⟩
      show ex_go X 167 0 [(0, .ref 32), (1, .int a)] [] w = _
      rw [set_id hT]
      simp (disch := first | assumption | decide) only [s167_0, s167_1, s167_4, s167_5, s167_6, s167_7, s167_10, s167_13, s167_14, if_neg c1, if_neg c2, cn, List.getElem?_cons_zero, List.getElem?_cons_succ, Option.bind_some, Option.toList_some, Option.toList_none, List.cons_append, List.nil_append]
theorem x_clear {a : Int32} {b1 b2 : Nat} (h0 : w[0]? = some (obj b1 b2)) (hb : b1 < 900) (K : isBl w b1 B) : ex_call X 13 [.ref 0, .int a] w = some (some (.int (clrA B a)), w) := by
  obtain ⟨us, ys, zs, K1, k2, k3, k4, k5, k6, k7, k8, k9⟩ := K
  have S := scan_shape k8
  have g : ex_gf w 0 0 4 = some (.ref b1) := ex_gf_i h0
  have zb : b1 < 1000 := by omega
  have rc := ex_rc_o K1.1 zb (by decide)
  have hs := S.2.2.2.1 2 (by omega)
  have hbb := K1.2.2.2.2 (cP B 2)
  have hm : ex_call X 31 [.ref b1, .int 2] w = some (some (.int (nI (B.getD (cP B 2) 0))), w) := b_howMany (X := X) (part := 2) K1 k3 k4 (by omega) (by omega) (k7.1 2 (by omega)) (by omega)
  show ex_go X 13 0 [(0, .ref 0), (1, .int a)] [] w = _
  unfold clrA
  by_cases c1 : a < 0
  · simp (disch := first | assumption | decide) only [s13_0, s13_1, s13_4, s13_5, s13_6, s13_9, s13_10, s13_13, s13_16, s13_17, if_pos c1]
  · by_cases c2 : a < nI (B.getD (cP B 2) 0)
    · obtain ⟨c, hc, rfl⟩ := nI_of c1
      have c3 : c < B.getD (cP B 2) 0 := (nI_ltI hc (by omega)).mp c2
      have ok := hs.2.2 c c3
      have hq := ok.1
      have lt := codes_lt S c3
      have hg := iEnd_gt B 2 (itN B 2 (cP B 2 + 1) c)
      have hBl := S.2.2.1
      have cp := b_codePlace (X := X) (k := c) K1 k5 k6 (by omega) (by omega) (k7.2 c c3)
      have ic := b_isClear (X := X) (p := itN B 2 (cP B 2 + 1) c) K1 (by omega)
      simp (disch := first | assumption | decide) only [s13_0, s13_1, s13_4, s13_5, s13_6, s13_9, s13_10, s13_13, s13_16, s13_17, s13_18, s13_19, s13_22, s13_23, s13_26, s13_27, s13_30, s13_33, s13_36, s13_37, s13_40, s13_41, if_neg c1, if_pos c2, g, List.getElem?_cons_zero, List.getElem?_cons_succ, Option.bind_some, Option.toList_some, Option.toList_none, List.cons_append, List.nil_append, hm, cp, ic, nI_clamp hc]
      by_cases d : clearN B (itN B 2 (cP B 2 + 1) c) = true
      · have n1 : ¬ (1 : Int32) = 0 := by decide
        simp only [if_pos d, if_neg n1]
      · simp only [if_neg d, if_true]
    · simp (disch := first | assumption | decide) only [s13_0, s13_1, s13_4, s13_5, s13_6, s13_9, s13_10, s13_13, s13_16, s13_17, if_neg c1, if_neg c2, g, List.getElem?_cons_zero, List.getElem?_cons_succ, Option.bind_some, Option.toList_some, Option.toList_none, List.cons_append, List.nil_append, hm]
end CLEAR
