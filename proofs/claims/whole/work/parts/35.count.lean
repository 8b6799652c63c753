/-! a block's shape; count of both -/
theorem itN_succ {B : List Nat} {part : Nat} : ∀ (n p : Nat), itN B part p (n + 1) = iEnd B part (itN B part p n) := by
  intro n
  induction n with
  | zero => intro p; rfl
  | succ n ih => intro p; exact ih (iEnd B part p)
/-- what is so of every item -/
def itemOK (B : List Nat) (part p : Nat) : Prop := iEnd B part p ≤ B.length ∧ (part = 0 → 1 ≤ B.getD p 0 ∧ B.getD p 0 ≤ 4)
theorem itemsN_ok {B : List Nat} {part : Nat} : ∀ (k p e : Nat), itemsN B part k p = .inr e → ∀ i, i < k → itemOK B part (itN B part p i) := by
  have hl := limN_le B
  intro k
  induction k with
  | zero => intro p e h i hi; omega
  | succ k ih =>
    intro p e h i hi
    rw [itemsN] at h
    split at h
    next => cases h
    next e1 h1 =>
      unfold stepN at h1
      split at h1
      next => cases h1
      next c =>
        split at h1
        next c2 =>
          cases h1
          cases i with
          | zero =>
            refine ⟨Nat.le_trans c2 hl.2, fun hp => ?_⟩
            have hg := iEnd_gt B part p
            refine Classical.byContradiction fun z => c ⟨hp, ?_, z⟩
            show p < limN B
            omega
          | succ i => exact ih _ e h i (by omega)
        next => cases h1
/-- a block's shape -/
def shape (B : List Nat) : Prop := 5 < B.length ∧ B.getD 0 0 = 77 ∧ B.length ≤ 120 ∧ (∀ k, k < 4 → cP B k + 4 ≤ B.length + k ∧ k + 2 ≤ cP B k ∧ ∀ i, i < B.getD (cP B k) 0 → itemOK B k (itN B k (cP B k + 1) i)) ∧ cP B 4 = B.length
theorem itN_ge {B : List Nat} {part : Nat} : ∀ (n p : Nat), p ≤ itN B part p n := by
  intro n
  induction n with
  | zero => intro p; exact Nat.le_refl _
  | succ n ih =>
    intro p
    have := iEnd_gt B part p
    have := ih (iEnd B part p)
    rw [itN]
    omega
theorem scan_shape {B : List Nat} (h : scanN B = none) : shape B := by
  have hl := limN_le B
  unfold scanN at h
  split at h
  next => cases h
  next c =>
    split at h
    next => cases h
    next e he =>
      split at h
      next => cases h
      next hlt =>
        have step : ∀ (r p : Nat), partsN B (r + 1) p = .inr e → p < limN B ∧ (∀ i, i < B.getD p 0 → itemOK B (3 - r) (itN B (3 - r) (p + 1) i)) ∧ itN B (3 - r) (p + 1) (B.getD p 0) ≤ limN B ∧ partsN B r (itN B (3 - r) (p + 1) (B.getD p 0)) = .inr e := by
          intro r p h
          rw [partsN] at h
          split at h
          next d =>
            split at h
            next => cases h
            next e1 h1 =>
              obtain ⟨t1, t2, -⟩ := itemsN_inr _ _ _ h1
              have t2 := t2 (by omega)
              exact ⟨d, itemsN_ok _ _ _ h1, by rw [← t1]; exact t2, by rw [← t1]; exact h⟩
          next => cases h
        obtain ⟨a0, b0, d0, f0⟩ := step 3 2 he
        have e1 : itN B 0 (2 + 1) (B.getD 2 0) = cP B 1 := rfl
        rw [show (3 - 3 : Nat) = 0 from rfl, e1] at d0 f0
        obtain ⟨a1, b1, d1, f1⟩ := step 2 _ f0
        have e2 : itN B 1 (cP B 1 + 1) (B.getD (cP B 1) 0) = cP B 2 := rfl
        rw [show (3 - 2 : Nat) = 1 from rfl, e2] at d1 f1
        obtain ⟨a2, b2, d2, f2⟩ := step 1 _ f1
        have e3 : itN B 2 (cP B 2 + 1) (B.getD (cP B 2) 0) = cP B 3 := rfl
        rw [show (3 - 1 : Nat) = 2 from rfl, e3] at d2 f2
        obtain ⟨a3, b3, d3, f3⟩ := step 0 _ f2
        have e4 : itN B 3 (cP B 3 + 1) (B.getD (cP B 3) 0) = cP B 4 := rfl
        rw [show (3 - 0 : Nat) = 3 from rfl, e4] at d3 f3
        have hE : cP B 4 = e := by
          have : partsN B 0 (cP B 4) = .inr (cP B 4) := rfl
          rw [this] at f3
          cases f3
          rfl
        have g1 : 2 + 1 ≤ cP B 1 := itN_ge (B := B) (part := 0) (B.getD 2 0) (2 + 1)
        have g2 : cP B 1 + 1 ≤ cP B 2 := itN_ge (B := B) (part := 1) _ _
        have g3 : cP B 2 + 1 ≤ cP B 3 := itN_ge (B := B) (part := 2) _ _
        have g4 : cP B 3 + 1 ≤ cP B 4 := itN_ge (B := B) (part := 3) _ _
        have c0 : cP B 0 = 2 := rfl
        have hEl : cP B 4 = B.length := by omega
        refine ⟨by omega, Classical.byContradiction fun z => c ⟨by omega, z⟩, by omega, ?_, hEl⟩
        intro k hk
        have cs : k = 0 ∨ k = 1 ∨ k = 2 ∨ k = 3 := by omega
        rcases cs with q | q | q | q <;> subst q
        · exact ⟨by omega, by omega, b0⟩
        · exact ⟨by omega, by omega, b1⟩
        · exact ⟨by omega, by omega, b2⟩
        · exact ⟨by omega, by omega, b3⟩
/-- the other object's block -/
def isB (w : ex_W) (m : Nat → Int32) (v : Int64) (bs : List Int32) (B : List Nat) : Prop := w[32]? = some (.inl (8, mo m v)) ∧ w[33]? = some (.inr (0, bs)) ∧ bs.length = 130 ∧ holds bs B ∧ (∀ j, B.getD j 0 < 256)
section COUNT
variable {X : Option (List Int32)} {w : ex_W} {m : Nat → Int32} {v : Int64} {bs : List Int32} {B : List Nat} {p part : Nat}
theorem y_blk (M : isB w m v bs B) (hp : p < B.length) : ex_al w 33 0 (nI p) = some (nI (B.getD p 0)) := by
  rw [ex_al_i M.2.1 (by have := M.2.2.2.1.1; omega) (by rw [M.2.2.1]; decide), M.2.2.2.1.2 p hp]
theorem y_skip (M : isB w m v bs B) (hk : part ≤ 3) (h : iEnd B part p ≤ B.length) : ex_call X 166 [.ref 32, .int (nI part), .int (nI p)] w = some (some (.int (nI (iEnd B part p))), w) := by
  have g := ex_gf_i (k := 0) M.1
  rw [mo_0] at g
  have hg := iEnd_gt B part p
  have hbl : B.length ≤ 130 := by have := M.2.2.2.1.1; have := M.2.2.1; omega
  have h0 := y_blk M (p := p) (by omega)
  have h1 := y_blk M (p := p + 1) (by omega)
  have hb := M.2.2.2.2 p
  have hb1 := M.2.2.2.2 (p + 1)
  show ex_go X 166 0 [(0, .ref 32), (1, .int (nI part)), (2, .int (nI p))] [] w = _
  have cs : part = 0 ∨ part = 1 ∨ part = 2 ∨ part = 3 := by omega
  rcases cs with c | c | c | c <;> subst c
  · have e1 : ¬ nI 0 = 1 := by decide
    have e2 : ¬ nI 0 = 2 := by decide
    have e3 : ¬ nI 0 = 3 := by decide
    have q1 : (nI (B.getD p 0) = 1) = (B.getD p 0 = 1) := propext (nI_eq (b := 1) (by omega) (by decide))
    have q2 : (nI (B.getD p 0) = 2) = (B.getD p 0 = 2) := propext (nI_eq (b := 2) (by omega) (by decide))
    have q3 : (nI (B.getD p 0) = 3) = (B.getD p 0 = 3) := propext (nI_eq (b := 3) (by omega) (by decide))
    simp (disch := first | assumption | decide) only [s166_0, s166_1, s166_2, s166_5, s166_6, s166_7, s166_8, s166_9, s166_10, s166_11, s166_14, s166_15, s166_16, s166_17, s166_18, s166_21, s166_22, s166_23, s166_24, s166_25, s166_26, s166_27, s166_28, s166_29, s166_32, s166_33, s166_36, s166_37, s166_38, s166_39, s166_42, s166_43, s166_44, s166_45, s166_46, s166_49, s166_50, s166_51, s166_52, s166_53, s166_54, s166_55, s166_56, s166_57, s166_60, s166_61, s166_62, s166_63, s166_66, s166_67, s166_70, s166_71, s166_74, s166_75, s166_76, s166_77, s166_80, s166_81, s166_84, s166_86, s166_87, g, List.getElem?_cons_zero, List.getElem?_cons_succ, Option.bind_some, Option.toList_some, Option.toList_none, List.cons_append, List.nil_append, e1, e2, e3, not_false_eq_true, if_true, if_false, nI_1, nI_2, h0, h1, q1, q2, q3, nI_add]
    unfold iEnd eEnd
    rw [if_pos rfl]
    by_cases c1 : B.getD p 0 = 1
    · have c2 : ¬ B.getD p 0 = 2 := by omega
      simp only [c1, if_true, not_true_eq_false, if_false, (by decide : ¬ (1 : Nat) = 2), not_false_eq_true]
      rw [show nI p + 5 = nI (p + 5) from nI_add p 5]
    · by_cases c2 : B.getD p 0 = 2
      · simp only [c2, (by decide : ¬ (2 : Nat) = 1), if_true, not_true_eq_false, if_false]
      · by_cases c3 : B.getD p 0 = 3
        · simp only [c3, (by decide : ¬ (3 : Nat) = 1), (by decide : ¬ (3 : Nat) = 2), if_true, not_true_eq_false, not_false_eq_true, if_false]
          rw [show nI p + 3 = nI (p + 3) from nI_add p 3]
        · simp only [c1, c2, c3, not_false_eq_true, if_true, if_false]
          rw [show nI p + 9 = nI (p + 9) from nI_add p 9]
  · have e1 : ¬ ¬ nI 1 = 1 := by decide
    simp only [s166_0, s166_1, s166_2, s166_5, s166_6, s166_7, s166_8, if_neg e1, nI_2]
    rfl
  · have hr : iEnd B 2 p = p + 3 + B.getD (p + 2) 0 := rfl
    have h2 := y_blk M (p := p + 2) (by omega)
    have e1 : ¬ nI 2 = 1 := by decide
    have e2 : ¬ ¬ nI 2 = 2 := by decide
    simp (disch := first | assumption | decide) only [s166_0, s166_1, s166_2, s166_5, s166_6, s166_7, s166_8, s166_9, s166_10, s166_11, s166_14, s166_15, s166_16, s166_17, s166_18, s166_21, s166_22, s166_23, s166_24, s166_25, s166_26, if_pos e1, if_neg e2, g, List.getElem?_cons_zero, List.getElem?_cons_succ, Option.bind_some, Option.toList_some, Option.toList_none, List.cons_append, List.nil_append, nI_2, nI_3, h2, nI_add]
    rw [hr]
  · have hr : iEnd B 3 p = p + 2 + B.getD (p + 1) 0 := rfl
    have e1 : ¬ nI 3 = 1 := by decide
    have e2 : ¬ nI 3 = 2 := by decide
    have e3 : nI 3 = 3 := by decide
    simp (disch := first | assumption | decide) only [s166_0, s166_1, s166_2, s166_9, s166_10, s166_11, s166_27, s166_28, s166_29, s166_42, s166_43, s166_44, s166_45, s166_46, s166_49, s166_50, s166_51, s166_52, s166_53, s166_54, if_pos e1, if_pos e2, if_pos e3, g, List.getElem?_cons_zero, List.getElem?_cons_succ, Option.bind_some, Option.toList_some, Option.toList_none, List.cons_append, List.nil_append, nI_2, nI_1, h1, nI_add]
    rw [hr]
theorem y_rcB (M : isB w m v bs B) : ex_rc w 32 8 = true := ex_rc_o M.1 (by decide) (by decide)
theorem y_partItems (M : isB w m v bs B) (S : shape B) (hk : part ≤ 3) {pt : Nat} : ∀ (k i p : Nat), i + k = B.getD (cP B part) 0 → p = itN B part (cP B part + 1) i → ex_go X 165 23 [(0, .ref 32), (1, .int (nI pt)), (2, .int (nI p)), (3, .int (nI part)), (4, .int (nI (B.getD (cP B part) 0))), (5, .int (nI i))] [] w = ex_go X 165 43 [(0, .ref 32), (1, .int (nI pt)), (2, .int (nI (cP B (part + 1)))), (3, .int (nI part))] [] w := by
  have rc := y_rcB M
  have hb := M.2.2.2.2 (cP B part)
  intro k
  induction k with
  | zero =>
    intro i p hi hp
    have e : nI (B.getD (cP B part) 0) ≤ nI i := nI_le (by omega) (by omega)
    have hi : i = B.getD (cP B part) 0 := by omega
    simp (disch := first | assumption | decide) only [s165_23, s165_25, s165_27, if_pos e]
    rw [hp, hi]
    rfl
  | succ k ih =>
    intro i p hi hp
    have e : ¬ nI (B.getD (cP B part) 0) ≤ nI i := nI_ge (by omega) (by omega)
    have ok := (S.2.2.2.1 part (by omega)).2.2 i (by omega)
    rw [← hp] at ok
    have sk := y_skip (X := X) (part := part) M hk ok.1
    rw [s165_23]
    simp (disch := first | assumption | decide) only [s165_25, s165_27, s165_30, s165_31, s165_32, s165_33, s165_36, s165_37, s165_40, if_neg e, sk, List.getElem?_cons_zero, List.getElem?_cons_succ, Option.bind_some, Option.toList_some, Option.toList_none, List.cons_append, List.nil_append, nI_1]
    exact ih (i + 1) _ (by omega) (by rw [itN_succ, hp])
theorem y_partLoop (M : isB w m v bs B) (S : shape B) {pt : Nat} (hpt : pt ≤ 3) : ∀ (k i : Nat), i + k = pt → ex_go X 165 4 [(0, .ref 32), (1, .int (nI pt)), (2, .int (nI (cP B i))), (3, .int (nI i))] [] w = some (some (.int (nI (cP B pt))), w) := by
  have g := ex_gf_i (k := 0) M.1
  rw [mo_0] at g
  intro k
  induction k with
  | zero =>
    intro i hi
    have e : nI pt ≤ nI i := nI_le (by omega) (by omega)
    have hi : i = pt := by omega
    simp (disch := first | assumption | decide) only [s165_4, s165_5, s165_6, s165_49, s165_50, if_pos e]
    rw [hi]
  | succ k ih =>
    intro i hi
    have e : ¬ nI pt ≤ nI i := nI_ge (by omega) (by omega)
    have hs := S.2.2.2.1 i (by omega)
    have h0 := y_blk M (p := cP B i) (by omega)
    have it := y_partItems (X := X) (part := i) (pt := pt) M S (by omega) (B.getD (cP B i) 0) 0 (cP B i + 1) (by omega) rfl
    have it : ex_go X 165 23 [(0, .ref 32), (1, .int (nI pt)), (2, .int (nI (cP B i + 1))), (3, .int (nI i)), (4, .int (nI (B.getD (cP B i) 0))), (5, .int 0)] [] w = _ := it
    rw [s165_4]
    simp (disch := first | assumption | decide) only [s165_5, s165_6, s165_9, s165_10, s165_13, s165_14, s165_15, s165_17, s165_20, s165_21, s165_43, s165_46, if_neg e, g, List.getElem?_cons_zero, List.getElem?_cons_succ, Option.bind_some, Option.toList_some, Option.toList_none, List.cons_append, List.nil_append, h0, nI_1, it]
    exact ih (i + 1) (by omega)
theorem y_partAt (M : isB w m v bs B) (S : shape B) {pt : Nat} (hpt : pt ≤ 3) : ex_call X 165 [.ref 32, .int (nI pt)] w = some (some (.int (nI (cP B pt))), w) := by
  have h := y_partLoop (X := X) M S hpt pt 0 (by omega)
  have h : ex_go X 165 4 [(0, .ref 32), (1, .int (nI pt)), (2, .int 2), (3, .int 0)] [] w = _ := h
  show ex_go X 165 0 [(0, .ref 32), (1, .int (nI pt))] [] w = _
  simp (disch := first | assumption | decide) only [s165_0, s165_1, s165_2, s165_3, h]
/-- what count answers -/
def cntN (B : List Nat) (a : Int32) : Int32 := if a < 0 then -1 else if a < 4 then nI (B.getD (cP B a.toNatClampNeg) 0) else -1
theorem four4 {a : Int32} (h0 : ¬ a < 0) (h4 : a < 4) : ∃ k : Nat, k ≤ 3 ∧ a = nI k := by
  obtain ⟨k, hk, rfl⟩ := nI_of h0
  refine ⟨k, ?_, rfl⟩
  rcases Nat.lt_or_ge k 4 with z | z
  · omega
  · exact absurd h4 (nI_nlt (b := 4) z (by omega))
theorem y_count {a : Int32} (M : isB w m v bs B) (S : shape B) : ex_call X 164 [.ref 32, .int a] w = some (some (.int (cntN B a)), w) := by
  have g := ex_gf_i (k := 0) M.1
  rw [mo_0] at g
  have rc := y_rcB M
  show ex_go X 164 0 [(0, .ref 32), (1, .int a)] [] w = _
  unfold cntN
  by_cases c1 : a < 0
  · simp (disch := first | assumption | decide) only [s164_0, s164_1, s164_4, s164_5, s164_6, s164_9, s164_10, s164_13, s164_14, s164_17, s164_18, s164_19, s164_22, s164_23, if_pos c1]
  · by_cases c2 : a < 4
    · obtain ⟨k, hk, rfl⟩ := four4 c1 c2
      have e3 : nI k ≤ 3 := nI_le (b := 3) hk (by decide)
      have pa := y_partAt (X := X) M S hk
      have hs := S.2.2.2.1 k (by omega)
      have h0 := y_blk M (p := cP B k) (by omega)
      simp (disch := first | assumption | decide) only [s164_0, s164_1, s164_4, s164_5, s164_6, s164_9, s164_10, s164_13, s164_14, s164_17, s164_18, s164_19, s164_22, s164_23, if_neg c1, if_pos c2, if_pos e3, g, List.getElem?_cons_zero, List.getElem?_cons_succ, Option.bind_some, Option.toList_some, Option.toList_none, List.cons_append, List.nil_append, pa, h0, nI_clamp (show k < 2 ^ 31 by omega)]
    · have e3 : ¬ a ≤ 3 := by
        intro z
        apply c2
        rw [Int32.le_iff_toInt_le] at z
        rw [Int32.lt_iff_toInt_lt]
        have e1 : (3 : Int32).toInt = 3 := rfl
        have e2 : (4 : Int32).toInt = 4 := rfl
        omega
      simp (disch := first | assumption | decide) only [s164_0, s164_1, s164_4, s164_5, s164_6, s164_9, s164_10, s164_13, s164_14, s164_17, s164_18, s164_19, s164_22, s164_23, if_neg c1, if_neg c2, if_neg e3]
theorem x_count {a : Int32} {b1 b2 : Nat} (h0 : w[0]? = some (obj b1 b2)) (hb : b1 < 900) (K : isBl w b1 B) : ex_call X 12 [.ref 0, .int a] w = some (some (.int (cntN B a)), w) := by
  obtain ⟨us, ys, zs, K1, k2, k3, k4, k5, k6, k7, k8, k9⟩ := K
  have S := scan_shape k8
  have g : ex_gf w 0 0 4 = some (.ref b1) := ex_gf_i h0
  have zb : b1 < 1000 := by omega
  have rc := ex_rc_o K1.1 zb (by decide)
  show ex_go X 12 0 [(0, .ref 0), (1, .int a)] [] w = _
  unfold cntN
  by_cases c1 : a < 0
  · simp (disch := first | assumption | decide) only [s12_0, s12_1, s12_4, s12_5, s12_6, s12_9, s12_10, s12_13, s12_14, s12_17, s12_18, s12_21, if_pos c1]
  · by_cases c2 : a < 4
    · obtain ⟨k, hk, rfl⟩ := four4 c1 c2
      have hs := S.2.2.2.1 k (by omega)
      have hm := b_howMany (X := X) K1 k3 k4 (by omega) (by omega) (k7.1 k (by omega)) (by omega)
      simp (disch := first | assumption | decide) only [s12_0, s12_1, s12_4, s12_5, s12_6, s12_9, s12_10, s12_13, s12_14, s12_17, s12_18, s12_21, if_neg c1, if_pos c2, g, List.getElem?_cons_zero, List.getElem?_cons_succ, Option.bind_some, Option.toList_some, Option.toList_none, List.cons_append, List.nil_append, hm, nI_clamp (show k < 2 ^ 31 by omega)]
    · simp (disch := first | assumption | decide) only [s12_0, s12_1, s12_4, s12_5, s12_6, s12_9, s12_10, s12_13, s12_14, s12_17, s12_18, s12_21, if_neg c1, if_neg c2]
end COUNT
