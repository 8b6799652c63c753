/-! a row of bytes taken over as the block -/
/-- a block's object whose bytes may be any -/
def isSp (w : ex_W) (b : Nat) : Prop := ∃ (us ys zs : List Int32) (k : Nat), w[b]? = some (.inl (2, [.ref (b + 1), .ref (b + 3), .ref (b + 4)])) ∧ isRow w (b + 1) (b + 2) us k ∧ us.length = 124 ∧ w[b + 3]? = some (.inr (0, ys)) ∧ ys.length = 4 ∧ w[b + 4]? = some (.inr (0, zs)) ∧ zs.length = 40
/-- a block's object with a block's bytes -/
def isBl (w : ex_W) (b : Nat) (B : List Nat) : Prop := ∃ us ys zs : List Int32, isBlk w b (b + 1) (b + 2) (b + 3) (b + 4) us B ∧ us.length = 124 ∧ w[b + 3]? = some (.inr (0, ys)) ∧ ys.length = 4 ∧ w[b + 4]? = some (.inr (0, zs)) ∧ zs.length = 40 ∧ parsed B ys zs ∧ scanN B = none ∧ B.length ≤ 120
theorem isBl_sp {w : ex_W} {b : Nat} {B : List Nat} (h : isBl w b B) : isSp w b := by
  obtain ⟨us, ys, zs, K, h1, h2, h3, h4, h5, -⟩ := h
  exact ⟨us, ys, zs, B.length, K.1, K.2.1, h1, h2, h3, h4, h5⟩
theorem isSp_o {w w2 : ex_W} {b : Nat} (h : isSp w b) (e : ∀ j, b ≤ j → j ≤ b + 4 → w2[j]? = w[j]?) : isSp w2 b := by
  obtain ⟨us, ys, zs, k, h1, h2, h3, h4, h5, h6, h7⟩ := h
  exact ⟨us, ys, zs, k, (e b (by omega) (by omega)).trans h1, ⟨(e _ (by omega) (by omega)).trans h2.1, (e _ (by omega) (by omega)).trans h2.2.1, h2.2.2⟩, h3, (e _ (by omega) (by omega)).trans h4, h5, (e _ (by omega) (by omega)).trans h6, h7⟩
theorem isBl_o {w w2 : ex_W} {b : Nat} {B : List Nat} (h : isBl w b B) (e : ∀ j, b ≤ j → j ≤ b + 4 → w2[j]? = w[j]?) : isBl w2 b B := by
  obtain ⟨us, ys, zs, K, h1, h2, h3, h4, h5, h6⟩ := h
  exact ⟨us, ys, zs, ⟨(e b (by omega) (by omega)).trans K.1, ⟨(e _ (by omega) (by omega)).trans K.2.1.1, (e _ (by omega) (by omega)).trans K.2.1.2.1, K.2.1.2.2⟩, K.2.2⟩, h1, (e _ (by omega) (by omega)).trans h2, h3, (e _ (by omega) (by omega)).trans h4, h5, h6⟩
theorem itemsN_inl {B : List Nat} {part : Nat} : ∀ (k p f : Nat), itemsN B part k p = .inl f → f ≤ limN B := by
  intro k
  induction k with
  | zero => intro p f h; cases h
  | succ k ih =>
    intro p f h
    rw [itemsN] at h
    split at h
    next g hg =>
      cases h
      unfold stepN at hg
      split at hg
      next c => cases hg; omega
      next =>
        split at hg
        next => cases hg
        next => cases hg; omega
    next e he => exact ih e f h
theorem partsN_le {B : List Nat} : ∀ (r p f : Nat), partsN B r p = .inl f → f ≤ limN B := by
  intro r
  induction r with
  | zero => intro p f h; cases h
  | succ r ih =>
    intro p f h
    rw [partsN] at h
    split at h
    next =>
      split at h
      next g hg => cases h; exact itemsN_inl _ _ _ hg
      next e he => exact ih e f h
    next => cases h; omega
theorem scanN_le {B : List Nat} {f : Nat} (h : scanN B = some f) : f ≤ B.length := by
  have hl := limN_le B
  unfold scanN at h
  split at h
  next => cases h; omega
  next =>
    split at h
    next f5 h5 =>
      cases h
      have := partsN_le _ _ _ h5
      omega
    next e5 h5 =>
      split at h
      next => cases h; omega
      next => cases h
def obj (b1 b2 : Nat) : ex_C := .inl (0, [.ref 1, .ref 3, .ref 5, .ref 15, .ref b1, .ref b2])
section ADOPT2
variable {X : Option (List Int32)} {w : ex_W} {b1 b2 h c : Nat} {us : List Int32} {B : List Nat}
theorem x_adopt (h0 : w[0]? = some (obj b1 b2)) (hb : b2 < 900) (hb0 : 0 < b2) (S : isSp w b2) (R : isRow w h c us B.length) (H : holds us B) (hB : ∀ j, B.getD j 0 < 256) (hl : B.length ≤ 124) (n1 : h < b2 ∨ b2 + 4 < h) (n2 : c < b2 ∨ b2 + 4 < c) :
    ∃ w2 : ex_W, w2.length = w.length ∧ (∀ j, j ≠ 0 → (j < b2 ∨ b2 + 4 < j) → w2[j]? = w[j]?) ∧ (∀ f, scanN B = some f → ex_call X 4 [.ref 0, .ref h] w = some (some (.int (nI f)), w2) ∧ w2[0]? = some (obj b1 b2) ∧ isSp w2 b2) ∧ (scanN B = none → ex_call X 4 [.ref 0, .ref h] w = some (some (.int (-1)), w2) ∧ w2[0]? = some (obj b2 b1) ∧ isBl w2 b2 B) := by
  obtain ⟨vs, ys, zs, k, S1, S2, S3, S4, S5, S6, S7⟩ := S
  have z0 : (0 : Nat) < 1000 := by decide
  have zb : b2 < 1000 := by omega
  obtain ⟨us2, u1, u2, u3⟩ := r_copy (X := X) (g := b2 + 1) S2 R H hB (by omega) (by omega) (by omega) (by omega) (by omega)
  have R1 := rowW_is (ys := us2) (n2 := B.length) S2 u1 (by rw [u1]; omega)
  have o : ∀ j, j ≠ b2 + 1 → j ≠ b2 + 2 → (rowW w (b2 + 1) (b2 + 1 + 1) us2 B.length)[j]? = w[j]? := fun j a b => rowW_o a b
  have K : isBlk (rowW w (b2 + 1) (b2 + 1 + 1) us2 B.length) b2 (b2 + 1) (b2 + 2) (b2 + 3) (b2 + 4) us2 B := ⟨(o b2 (by omega) (by omega)).trans S1, R1, u2, by omega, hB⟩
  have T4 := (o (b2 + 3) (by omega) (by omega)).trans S4
  have T6 := (o (b2 + 4) (by omega) (by omega)).trans S6
  obtain ⟨ys2, zs2, y1, y2, y3, y4⟩ := b_scan (X := X) K T4 S5 T6 S7 (by omega) (by omega) ⟨by omega, by omega, by omega⟩ ⟨by omega, by omega, by omega⟩ (by omega)
  have T0 : (rowW w (b2 + 1) (b2 + 1 + 1) us2 B.length)[0]? = some (obj b1 b2) := (o 0 (by omega) (by omega)).trans h0
  have V0 : (((rowW w (b2 + 1) (b2 + 1 + 1) us2 B.length).set (b2 + 3) (.inr (0, ys2))).set (b2 + 4) (.inr (0, zs2)))[0]? = some (obj b1 b2) := ex_set_o (by omega) (ex_set_o (by omega) T0)
  have W4 : (((rowW w (b2 + 1) (b2 + 1 + 1) us2 B.length).set (b2 + 3) (.inr (0, ys2))).set (b2 + 4) (.inr (0, zs2)))[b2 + 3]? = some (.inr (0, ys2)) := ex_set_o (by omega) (ex_set_s T4)
  have W6 : (((rowW w (b2 + 1) (b2 + 1 + 1) us2 B.length).set (b2 + 3) (.inr (0, ys2))).set (b2 + 4) (.inr (0, zs2)))[b2 + 4]? = some (.inr (0, zs2)) := ex_set_s (ex_set_o (by omega) T6)
  have K2 : isBlk (((rowW w (b2 + 1) (b2 + 1 + 1) us2 B.length).set (b2 + 3) (.inr (0, ys2))).set (b2 + 4) (.inr (0, zs2))) b2 (b2 + 1) (b2 + 2) (b2 + 3) (b2 + 4) us2 B := isBlk_set (isBlk_set K (by omega) (by omega) (by omega)) (by omega) (by omega) (by omega)
  have fr : ∀ j, (j < b2 ∨ b2 + 4 < j) → (((rowW w (b2 + 1) (b2 + 1 + 1) us2 B.length).set (b2 + 3) (.inr (0, ys2))).set (b2 + 4) (.inr (0, zs2)))[j]? = w[j]? := by
    intro j hj
    rw [List.getElem?_set_ne (by omega), List.getElem?_set_ne (by omega)]
    exact o j (by omega) (by omega)
  have ln : (((rowW w (b2 + 1) (b2 + 1 + 1) us2 B.length).set (b2 + 3) (.inr (0, ys2))).set (b2 + 4) (.inr (0, zs2))).length = w.length := by
    rw [List.length_set, List.length_set, rowW_len]
  have go1 : ∀ (r : Int32) (w3 : ex_W), ex_call X 27 [.ref b2] (rowW w (b2 + 1) (b2 + 1 + 1) us2 B.length) = some (some (.int r), w3) → ex_call X 4 [.ref 0, .ref h] w = ex_go X 4 19 [(0, .ref 0), (1, .ref h), (2, .int r)] [] w3 := by
    intro r w3 e
    show ex_go X 4 0 [(0, .ref 0), (1, .ref h)] [] w = _
    have g5 : ex_gf w 0 0 5 = some (.ref b2) := ex_gf_i h0
    have g5' : ex_gf (rowW w (b2 + 1) (b2 + 1 + 1) us2 B.length) 0 0 5 = some (.ref b2) := ex_gf_i T0
    have g0 : ex_gf w b2 2 0 = some (.ref (b2 + 1)) := ex_gf_i S1
    simp only [s4_0, s4_1 z0, g5, Option.bind_some, s4_4 zb, g0, s4_7, s4_8 (ex_rc_o S2.1 S2.2.2.2.2.1 (by decide)), u3, Option.toList_none, List.nil_append, s4_11, s4_12 z0, g5', s4_15 (ex_rc_o K.1 zb (by decide)), e, Option.toList_some, List.cons_append, s4_18]
  cases hs : scanN B with
  | some f =>
    refine ⟨_, ln, fun j _ hj => fr j hj, fun f2 h2 => ?_, fun h2 => (by cases h2)⟩
    cases h2
    refine ⟨?_, V0, ⟨us2, ys2, zs2, B.length, K2.1, K2.2.1, by rw [u1]; exact S3, W4, y1, W6, y2⟩⟩
    have hf := scanN_le hs
    have e1 : ¬ nI f = -1 := by
      intro z
      have := nI_pos' (n := f) (by omega)
      rw [z] at this
      revert this
      decide
    rw [go1 _ _ (y3 f hs)]
    simp only [s4_19, s4_20, s4_21, if_pos e1, s4_42, s4_43]
  | none =>
    obtain ⟨y41, y42, y43⟩ := y4 hs
    refine ⟨((((rowW w (b2 + 1) (b2 + 1 + 1) us2 B.length).set (b2 + 3) (.inr (0, ys2))).set (b2 + 4) (.inr (0, zs2)))).set 0 (obj b2 b1), by rw [List.length_set]; exact ln, fun j h0 hj => ?_, fun f2 h2 => (by cases h2), fun _ => ⟨?_, ex_set_s V0, ?_⟩⟩
    · rw [List.getElem?_set_ne (by omega)]
      exact fr j hj
    · rw [go1 _ _ y41]
      have g4 := ex_gf_i (k := 4) V0
      have g5 := ex_gf_i (k := 5) V0
      have p4 := ex_pf_i (k := 4) (v := .ref b2) V0 (show 4 < 6 by decide)
      have V1 : ((((rowW w (b2 + 1) (b2 + 1 + 1) us2 B.length).set (b2 + 3) (.inr (0, ys2))).set (b2 + 4) (.inr (0, zs2))).set 0 (obj b2 b2))[0]? = some (obj b2 b2) := ex_set_s V0
      have p5 := ex_pf_i (k := 5) (v := .ref b1) V1 (show 5 < 6 by decide)
      have g4 : ex_gf _ 0 0 4 = some (.ref b1) := g4
      have g5 : ex_gf _ 0 0 5 = some (.ref b2) := g5
      have p4 : ex_pf _ 0 0 4 (.ref b2) = some ((((rowW w (b2 + 1) (b2 + 1 + 1) us2 B.length).set (b2 + 3) (.inr (0, ys2))).set (b2 + 4) (.inr (0, zs2))).set 0 (obj b2 b2)) := p4
      have p5 : ex_pf _ 0 0 5 (.ref b1) = some (((((rowW w (b2 + 1) (b2 + 1 + 1) us2 B.length).set (b2 + 3) (.inr (0, ys2))).set (b2 + 4) (.inr (0, zs2))).set 0 (obj b2 b2)).set 0 (obj b2 b1)) := p5
      simp only [s4_19, s4_20, s4_21, not_true_eq_false, if_false, s4_24, s4_25 z0, g4, Option.bind_some, s4_28, s4_29, s4_30, s4_31 z0, g5, s4_34 z0, p4, s4_37, s4_38, s4_39 z0, p5, s4_42, s4_43, List.set_set]
    · refine isBl_o (w := ((rowW w (b2 + 1) (b2 + 1 + 1) us2 B.length).set (b2 + 3) (.inr (0, ys2))).set (b2 + 4) (.inr (0, zs2))) ⟨us2, ys2, zs2, K2, by rw [u1]; exact S3, W4, y1, W6, y2, y42, hs, y43⟩ (fun j a b => ?_)
      rw [List.getElem?_set_ne (by omega)]
end ADOPT2
