/-! instructions: how wide they are, where their distances stand -/
def headN (x : Nat) : Nat := if x = 1 ∨ x = 2 ∨ x = 8 ∨ x = 10 then 2 else 1
def distN (B : List Nat) (p : Nat) : Nat := if B.getD p 0 = 6 then 1 else if B.getD p 0 = 7 then 1 else if B.getD p 0 = 10 then B.getD (p + 1) 0 else 0
def widN (B : List Nat) (p e : Nat) : Nat := if B.getD p 0 ≤ 10 then (if p + (headN (B.getD p 0) + 2 * distN B p) ≤ e then headN (B.getD p 0) + 2 * distN B p else 0) else 0
/-- whether instructions fill the places from p to e -/
def clrN (B : List Nat) (e : Nat) : Nat → Nat → Bool
  | 0, p => decide (p = e)
  | k + 1, p => if p < e then (if widN B p e = 0 then false else clrN B e k (p + widN B p e)) else decide (p = e)
theorem headN_le (x : Nat) : 1 ≤ headN x ∧ headN x ≤ 2 := by unfold headN; split <;> omega
theorem distN_le {B : List Nat} (hB : ∀ j, B.getD j 0 < 256) (p : Nat) : distN B p < 256 := by
  unfold distN
  have := hB (p + 1)
  split
  · omega
  · split
    · omega
    · split <;> omega
section WID
variable {X : Option (List Int32)} {w : ex_W} {h a i b q cc cp p e part x : Nat} {xs : List Int32} {B : List Nat}
theorem n_headOf (hx : x < 2 ^ 20) : ex_call X 101 [.int (nI x)] w = some (some (.int (nI (headN x))), w) := by
  show ex_go X 101 0 [(0, .int (nI x))] [] w = _
  have e1 : ¬ (1 : Int32) = 0 := by decide
  unfold headN
  by_cases c : hasB x
  · have c2 : x = 1 ∨ x = 2 ∨ x = 8 ∨ x = 10 := c
    simp only [s101_0, s101_1, (n_hasByte (X := X) (w := w) hx).1 c, Option.bind_some, Option.toList_some, List.cons_append, List.nil_append, s101_4, if_neg e1, s101_7, s101_8, s101_12, if_pos c2]
    rfl
  · have c2 : ¬ (x = 1 ∨ x = 2 ∨ x = 8 ∨ x = 10) := c
    simp only [s101_0, s101_1, (n_hasByte (X := X) (w := w) hx).2 c, Option.bind_some, Option.toList_some, List.cons_append, List.nil_append, s101_4, if_true, s101_11, s101_12, if_neg c2]
    rfl
theorem n_dist (R : isRow w h a xs B.length) (H : holds xs B) (hB : ∀ j, B.getD j 0 < 256) (hp : p < 2 ^ 20) : ex_call X 103 [.ref h, .int (nI p)] w = some (some (.int (nI (distN B p))), w) := by
  have rc := ex_rc_o R.1 R.2.2.2.2.1 (by decide)
  have c0 := r_cellB (X := X) (i := p) R H (by omega)
  have c1 := r_cellB (X := X) (i := p + 1) R H (by omega)
  have hx := hB p
  show ex_go X 103 0 [(0, .ref h), (1, .int (nI p))] [] w = _
  simp only [s103_0, s103_1, s103_2 rc, c0, Option.bind_some, Option.toList_some, List.cons_append, List.nil_append, s103_5, s103_40, s103_41, s103_42, s103_43, s103_44, s103_45, L0, L1, L6, L7, L8, L9, L10, nI_add, s103_46 rc, c1, s103_49, s103_50, s103_51]
  unfold distN
  simp (disch := omega) only [nI_eq]
  by_cases c6 : B.getD p 0 = 6
  · rw [if_pos c6, if_pos c6]
  · rw [if_neg c6, if_neg c6]
    by_cases c7 : B.getD p 0 = 7
    · rw [if_pos c7, if_pos c7]
    · rw [if_neg c7, if_neg c7]
      by_cases c8 : B.getD p 0 = 8
      · rw [if_pos c8, if_neg (by omega)]
      · rw [if_neg c8]
        by_cases c9 : B.getD p 0 = 9
        · rw [if_pos c9, if_neg (by omega)]
        · rw [if_neg c9]
          by_cases c10 : B.getD p 0 = 10
          · rw [if_pos c10, if_pos c10]
          · rw [if_neg c10, if_neg c10]
theorem n_width (R : isRow w h a xs B.length) (H : holds xs B) (hB : ∀ j, B.getD j 0 < 256) (hp : p < 2 ^ 20) (he : e < 2 ^ 20) : ex_call X 100 [.ref h, .int (nI p), .int (nI e)] w = some (some (.int (nI (widN B p e))), w) := by
  have rc := ex_rc_o R.1 R.2.2.2.2.1 (by decide)
  have c0 := r_cellB (X := X) (i := p) R H (by omega)
  have hx := hB p
  have ch := n_headOf (X := X) (w := w) (x := B.getD p 0) (by omega)
  have cd := n_dist (X := X) R H hB hp
  have h1 := headN_le (B.getD p 0)
  have h2 := distN_le hB p
  show ex_go X 100 0 [(0, .ref h), (1, .int (nI p)), (2, .int (nI e))] [] w = _
  simp only [s100_0, s100_1, s100_2 rc, c0, Option.bind_some, Option.toList_some, List.cons_append, List.nil_append, s100_5, s100_6, s100_7, s100_9, s100_12, s100_13, s100_14, s100_15, ch, s100_18, s100_19, s100_20, s100_21, cd, s100_24, s100_25, L0, L2, L10, pk_mul, nI_add, s100_26, s100_28, s100_29, s100_31, s100_32, s100_33, s100_36, s100_37, s100_40, s100_42]
  unfold widN
  simp (disch := omega) only [nI_leI]
  split
  · split <;> rfl
  · rfl
theorem b_clear (K : isBlk w b q a cc cp xs B) (he : e < 2 ^ 20) : ∀ (k i p : Nat), i + k = 120 → p < 2 ^ 20 → p ≤ e → ex_go X 33 14 [(0, .ref b), (2, .int (nI e)), (3, .int (nI p)), (4, .int (nI i))] [] w = some (some (.int (if clrN B e k p = true then 1 else 0)), w) := by
  obtain ⟨hb, R, H, h1, hB⟩ := K
  intro k
  induction k with
  | zero =>
    intro i p hi hp hpe
    have e1 : (120 : Int32) ≤ nI i := by rw [L120, nI_leI (by omega) (by omega)]; omega
    rw [s33_14]
    simp only [s33_16, s33_18, if_pos e1, s33_55, s33_56, s33_57, s33_60, s33_61, s33_64, s33_65 (Or.inl rfl), s33_65 (Or.inr rfl)]
    simp (disch := omega) only [nI_eq, clrN, decide_eq_true_eq]
    by_cases c : p = e
    · rw [if_neg (fun z => z c), if_pos c]
    · rw [if_pos c, if_neg c]
  | succ k ih =>
    intro i p hi hp hpe
    have e1 : ¬ (120 : Int32) ≤ nI i := by rw [L120, nI_leI (by omega) (by omega)]; omega
    have cw := n_width (X := X) (e := e) R H hB hp he
    rw [s33_14]
    by_cases c : p < e
    · have e2 : ¬ nI e ≤ nI p := nI_ge c (by omega)
      have hw : widN B p e = 0 ∨ (0 < widN B p e ∧ p + widN B p e ≤ e) := by
        unfold widN
        have := headN_le (B.getD p 0)
        split
        · split
          · right; omega
          · left; rfl
        · left; rfl
      simp only [s33_16, s33_18, if_neg e1, s33_21, s33_22, s33_23, if_neg e2, s33_26, s33_27 h1, ex_gf_i hb, List.getElem?_cons_zero, Option.bind_some, s33_30, s33_31, s33_32, cw, Option.toList_some, List.cons_append, List.nil_append, s33_35, s33_37, s33_39]
      rcases hw with hw | ⟨hw1, hw2⟩
      · have e3 : ¬ ¬ nI (widN B p e) = 0 := fun z => z (by rw [hw]; rfl)
        simp only [if_neg e3, s33_42, s33_43 (Or.inl rfl), clrN, if_pos c, if_pos hw]
        rfl
      · have e3 : ¬ nI (widN B p e) = 0 := nI_ne0 hw1 (by omega)
        simp only [if_pos e3, s33_44, s33_45, s33_47, nI_add, s33_48, s33_49, nI_1, s33_52]
        rw [ih (i + 1) (p + widN B p e) (by omega) (by omega) hw2]
        simp only [clrN, if_pos c, if_neg (show ¬ widN B p e = 0 by omega)]
    · have hpe2 : p = e := by omega
      have e2 : nI e ≤ nI p := nI_le (by omega) (by omega)
      simp only [s33_16, s33_18, if_neg e1, s33_21, s33_22, s33_23, if_pos e2, s33_55, s33_56, s33_57, s33_60, s33_61, s33_64, s33_65 (Or.inl rfl), s33_65 (Or.inr rfl)]
      simp (disch := omega) only [nI_eq, clrN, if_neg c, decide_eq_true_eq]
      rw [if_neg (fun z => z hpe2), if_pos hpe2]
/-- whether the code at p is clear -/
def clearN (B : List Nat) (p : Nat) : Bool := clrN B (p + 3 + B.getD (p + 2) 0) 120 (p + 3)
theorem b_isClear (K : isBlk w b q a cc cp xs B) (hp : p < 2 ^ 19) : ex_call X 33 [.ref b, .int (nI p)] w = some (some (.int (if clearN B p = true then 1 else 0)), w) := by
  have rb := ex_rc_o K.1 K.2.2.2.1 (by decide)
  have ci := b_itemEnd (X := X) (p := p) (part := 2) K (by omega) (by omega)
  have hB := K.2.2.2.2 (p + 2)
  have ei : iEnd B 2 p = p + 3 + B.getD (p + 2) 0 := rfl
  show ex_go X 33 0 [(0, .ref b), (1, .int (nI p))] [] w = _
  rw [← L2] at ci
  simp only [s33_0, s33_1, s33_2, s33_3 rb, ci, Option.bind_some, Option.toList_some, List.cons_append, List.nil_append, s33_6, s33_7, s33_8, s33_9, s33_10, s33_11, s33_12]
  have e3 : nI p + 3 = nI (p + 3) := nI_3 p
  rw [e3, ei]
  exact b_clear K (by omega) 120 0 (p + 3) (by omega) (by omega) (by omega)
theorem b_howMany {c0 : Nat} {ys : List Int32} (K : isBlk w b q a cc cp xs B) (hc : w[cc]? = some (.inr (0, ys))) (hy : ys.length = 4) (hcc : cc < 1000) (hk : part < 4) (hv : ys.getD part 0 = nI c0) (h0 : c0 < 2 ^ 20) : ex_call X 31 [.ref b, .int (nI part)] w = some (some (.int (nI (B.getD c0 0))), w) := by
  obtain ⟨hb, R, H, h1, hB⟩ := K
  have rc := ex_rc_o R.1 R.2.2.2.2.1 (by decide)
  have cv := r_cellB (X := X) (i := c0) R H (by omega)
  have e1 : ¬ nI part < 0 := nI_pos (by omega)
  have e2 : nI part < 4 := nI_lt (b := 4) hk (by decide)
  show ex_go X 31 0 [(0, .ref b), (1, .int (nI part))] [] w = _
  simp only [s31_0, s31_1, if_neg e1, s31_4, s31_5, s31_6, if_pos e2, s31_13, s31_14 h1, ex_gf_i hb, List.getElem?_cons_zero, List.getElem?_cons_succ, Option.bind_some, s31_17, s31_18 h1, s31_21, s31_22 hcc, ex_al_i hc (show part < ys.length by omega) (by omega), hv, s31_23 rc, cv, Option.toList_some, List.cons_append, List.nil_append, s31_26]
theorem b_firstItem {c0 : Nat} {ys : List Int32} (K : isBlk w b q a cc cp xs B) (hc : w[cc]? = some (.inr (0, ys))) (hy : ys.length = 4) (hcc : cc < 1000) (hk : part < 4) (hv : ys.getD part 0 = nI c0) : ex_call X 32 [.ref b, .int (nI part)] w = some (some (.int (nI (c0 + 1))), w) := by
  obtain ⟨hb, R, H, h1, hB⟩ := K
  have e1 : ¬ nI part < 0 := nI_pos (by omega)
  have e2 : nI part < 4 := nI_lt (b := 4) hk (by decide)
  show ex_go X 32 0 [(0, .ref b), (1, .int (nI part))] [] w = _
  simp only [s32_0, s32_1, if_neg e1, s32_4, s32_5, s32_6, if_pos e2, s32_13, s32_14 h1, ex_gf_i hb, List.getElem?_cons_zero, List.getElem?_cons_succ, Option.bind_some, s32_17, s32_18 hcc, ex_al_i hc (show part < ys.length by omega) (by omega), hv, s32_19, s32_20, s32_21, nI_1]
theorem b_codePlace {c0 k : Nat} {ys : List Int32} (K : isBlk w b q a cc cp xs B) (hc : w[cp]? = some (.inr (0, ys))) (hy : ys.length = 40) (hcp : cp < 1000) (hk : k < 40) (hv : ys.getD k 0 = nI c0) : ex_call X 34 [.ref b, .int (nI k)] w = some (some (.int (nI c0)), w) := by
  obtain ⟨hb, R, H, h1, hB⟩ := K
  have e1 : ¬ nI k < 0 := nI_pos (by omega)
  have e2 : nI k < nI ys.length := by rw [hy]; exact nI_lt hk (by decide)
  show ex_go X 34 0 [(0, .ref b), (1, .int (nI k))] [] w = _
  simp only [s34_0, s34_1, if_neg e1, s34_4, s34_5, s34_6 h1, ex_gf_i hb, List.getElem?_cons_zero, List.getElem?_cons_succ, Option.bind_some, s34_9 hcp, ex_an_i hc, s34_10, if_pos e2, s34_17, s34_18 h1, s34_21, s34_22 hcp, ex_al_i hc (show k < ys.length by omega) (by omega), hv, s34_23]
end WID
