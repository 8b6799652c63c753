/-! blocks: where their items end, which codes are clear -/
theorem L0 : (0 : Int32) = nI 0 := rfl
theorem L1 : (1 : Int32) = nI 1 := rfl
theorem L2 : (2 : Int32) = nI 2 := rfl
theorem L3 : (3 : Int32) = nI 3 := rfl
theorem L4 : (4 : Int32) = nI 4 := rfl
theorem L5 : (5 : Int32) = nI 5 := rfl
theorem L6 : (6 : Int32) = nI 6 := rfl
theorem L7 : (7 : Int32) = nI 7 := rfl
theorem L8 : (8 : Int32) = nI 8 := rfl
theorem L9 : (9 : Int32) = nI 9 := rfl
theorem L10 : (10 : Int32) = nI 10 := rfl
theorem L77 : (77 : Int32) = nI 77 := rfl
theorem L120 : (120 : Int32) = nI 120 := rfl
/-- a row's used cells are these numbers -/
def holds (xs : List Int32) (B : List Nat) : Prop := B.length ≤ xs.length ∧ ∀ j, j < B.length → xs.getD j 0 = nI (B.getD j 0)
theorem getD_out {B : List Nat} {i : Nat} (h : B.length ≤ i) : B.getD i 0 = 0 := by
  rw [List.getD_eq_getElem?_getD, List.getElem?_eq_none h]
  rfl
theorem rowAt_B {xs : List Int32} {B : List Nat} {i : Nat} (H : holds xs B) (hl : xs.length < 2 ^ 20) (hi : i < 2 ^ 31) : rowAt xs B.length 0 (nI i) = nI (B.getD i 0) := by
  unfold rowAt
  have hB := H.1
  rw [if_neg (nI_pos hi)]
  by_cases h : i < B.length
  · rw [if_pos (nI_lt h (by omega)), nI_clamp hi]
    exact H.2 i h
  · rw [if_neg (nI_nlt (by omega) hi), getD_out (by omega)]
    rfl
section BLK
variable {X : Option (List Int32)} {w : ex_W} {h a i b q cc cp p e part x : Nat} {xs : List Int32} {B : List Nat}
theorem r_cellB (R : isRow w h a xs B.length) (H : holds xs B) (hi : i < 2 ^ 31) : ex_call X 18 [.ref h, .int (nI i)] w = some (some (.int (nI (B.getD i 0))), w) := by
  rw [r_cell R, rowAt_B H R.2.2.2.1 hi]
def isBlk (w : ex_W) (b q a cc cp : Nat) (xs : List Int32) (B : List Nat) : Prop := w[b]? = some (.inl (2, [.ref q, .ref cc, .ref cp])) ∧ isRow w q a xs B.length ∧ holds xs B ∧ b < 1000 ∧ ∀ j, B.getD j 0 < 256
def eEnd (B : List Nat) (p : Nat) : Nat := if B.getD p 0 = 1 then p + 5 else if B.getD p 0 = 2 then p + 2 + B.getD (p + 1) 0 else if B.getD p 0 = 3 then p + 3 else p + 9
def iEnd (B : List Nat) (part p : Nat) : Nat := if part = 0 then eEnd B p else if part = 1 then p + 2 else if part = 2 then p + 3 + B.getD (p + 2) 0 else p + 2 + B.getD (p + 1) 0
theorem b_entryEnd (K : isBlk w b q a cc cp xs B) (hp : p < 2 ^ 20) : ex_call X 30 [.ref b, .int (nI p)] w = some (some (.int (nI (eEnd B p))), w) := by
  obtain ⟨hb, R, H, h1, hB⟩ := K
  have rc := ex_rc_o R.1 R.2.2.2.2.1 (by decide)
  have c0 := r_cellB (X := X) (i := p) R H (by omega)
  have c1 := r_cellB (X := X) (i := p + 1) R H (by omega)
  have hx := hB p
  show ex_go X 30 0 [(0, .ref b), (1, .int (nI p))] [] w = _
  simp only [s30_0, s30_1 h1, ex_gf_i hb, List.getElem?_cons_zero, Option.bind_some, s30_4, s30_5 rc, c0, Option.toList_some, List.cons_append, List.nil_append, s30_8, s30_36, s30_37, s30_38, s30_39, s30_40, s30_41, s30_42, s30_43, s30_44 h1, s30_47, s30_48, s30_49, L1, L2, L3, L5, L9, nI_add, s30_50 rc, c1, s30_53, s30_54, s30_55, s30_56, s30_57, s30_58, s30_59, s30_60, s30_62, s30_63]
  unfold eEnd
  simp (disch := omega) only [nI_eq]
  split
  · rfl
  · split
    · rfl
    · split <;> rfl
theorem b_itemEnd (K : isBlk w b q a cc cp xs B) (hp : p < 2 ^ 20) (hk : part ≤ 3) : ex_call X 29 [.ref b, .int (nI part), .int (nI p)] w = some (some (.int (nI (iEnd B part p))), w) := by
  have K0 := K
  obtain ⟨hb, R, H, h1, hB⟩ := K
  have rc := ex_rc_o R.1 R.2.2.2.2.1 (by decide)
  have rb := ex_rc_o hb h1 (by decide)
  have c1 := r_cellB (X := X) (i := p + 1) R H (by omega)
  have c2 := r_cellB (X := X) (i := p + 2) R H (by omega)
  have ce := b_entryEnd (X := X) K0 hp
  show ex_go X 29 0 [(0, .ref b), (1, .int (nI part)), (2, .int (nI p))] [] w = _
  simp only [s29_0, s29_1, s29_28, s29_29, s29_30 rb, ce, Option.bind_some, Option.toList_some, List.cons_append, List.nil_append, s29_33, s29_34, s29_35, s29_36, s29_37, s29_38, s29_39, s29_40, s29_41, s29_42 h1, ex_gf_i hb, List.getElem?_cons_zero, s29_45, s29_46, s29_47, L0, L1, L2, L3, nI_add, s29_48 rc, c1, c2, s29_51, s29_52, s29_53, s29_54, s29_55, s29_56, s29_57 h1, s29_60, s29_61, s29_62, s29_63 rc, s29_66, s29_67]
  unfold iEnd
  simp (disch := omega) only [nI_eq]
  split
  · rfl
  · split
    · rfl
    · split <;> rfl
theorem b_isKind (hx : x < 2 ^ 20) : ex_call X 28 [.int (nI x)] w = some (some (.int (if 1 ≤ x ∧ x ≤ 4 then 1 else 0)), w) := by
  show ex_go X 28 0 [(0, .int (nI x))] [] w = _
  simp only [s28_0, s28_1, s28_2, s28_5, s28_6, s28_7, s28_10, s28_11, s28_14, s28_15 (Or.inl rfl), s28_15 (Or.inr rfl)]
  simp (disch := omega) only [L1, L4, nI_ltI]
  by_cases c1 : x < 1
  · rw [if_pos c1, if_neg (by omega)]
  · rw [if_neg c1]
    by_cases c2 : 4 < x
    · rw [if_pos c2, if_neg (by omega)]
    · rw [if_neg c2, if_pos (by omega)]
/-- instructions with a byte behind them -/
def hasB (x : Nat) : Prop := x = 1 ∨ x = 2 ∨ x = 8 ∨ x = 10
theorem n_hasByte (hx : x < 2 ^ 20) : (hasB x → ex_call X 102 [.int (nI x)] w = some (some (.int 1), w)) ∧ (¬ hasB x → ex_call X 102 [.int (nI x)] w = some (some (.int 0), w)) := by
  have e : ex_call X 102 [.int (nI x)] w = if x = 1 then some (some (.int 1), w) else if x = 2 then some (some (.int 1), w) else if x = 8 then some (some (.int 1), w) else if ¬ x = 10 then some (some (.int 0), w) else some (some (.int 1), w) := by
    show ex_go X 102 0 [(0, .int (nI x))] [] w = _
    simp only [s102_0, s102_1, s102_2, s102_5, s102_6, s102_7, s102_10, s102_11, s102_13, s102_16, s102_17, s102_19, s102_22, s102_23, s102_26, s102_27 (Or.inl rfl), s102_27 (Or.inr rfl)]
    simp (disch := omega) only [L1, L2, L8, L10, nI_eq]
  rw [e]
  unfold hasB
  constructor
  · intro h
    by_cases c1 : x = 1
    · rw [if_pos c1]
    · rw [if_neg c1]
      by_cases c2 : x = 2
      · rw [if_pos c2]
      · rw [if_neg c2]
        by_cases c3 : x = 8
        · rw [if_pos c3]
        · rw [if_neg c3, if_neg (by omega)]
  · intro h
    rw [if_neg (by omega), if_neg (by omega), if_neg (by omega), if_pos (by omega)]
end BLK
