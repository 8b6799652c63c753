/-! the other object's scan -/
/-- its waiting bytes are B -/
def isM (w : ex_W) (m : Nat → Int32) (v : Int64) (xs : List Int32) (B : List Nat) : Prop := w[32]? = some (.inl (8, mo m v)) ∧ w[35]? = some (.inr (0, xs)) ∧ xs.length = 124 ∧ holds xs B ∧ (∀ j, B.getD j 0 < 256) ∧ m 5 = nI B.length
/-- the world with a fault noted -/
def mF (w : ex_W) (m : Nat → Int32) (v : Int64) (f : Int32) : ex_W := w.set 32 (.inl (8, mo (upd m 18 f) v))
theorem isM_F {w : ex_W} {m : Nat → Int32} {v : Int64} {xs : List Int32} {B : List Nat} {f : Int32} (M : isM w m v xs B) : isM (mF w m v f) (upd m 18 f) v xs B := by
  obtain ⟨h1, h2, h3, h4, h5, h6⟩ := M
  exact ⟨ex_set_s h1, ex_set_o (by decide) h2, h3, h4, h5, h6⟩
theorem mF_F {w : ex_W} {m : Nat → Int32} {v : Int64} {f g : Int32} : mF (mF w m v f) (upd m 18 f) v g = mF w m v g := by
  unfold mF
  rw [List.set_set]
  have e : upd (upd m 18 f) 18 g = upd m 18 g := by
    funext j
    unfold upd
    split <;> rfl
  rw [e]
section MTAKE
variable {X : Option (List Int32)} {w : ex_W} {m : Nat → Int32} {v : Int64} {xs : List Int32} {B : List Nat} {p n i : Nat}
theorem y_rd (M : isM w m v xs B) (hi : i < B.length) : ex_al w 35 0 (nI i) = some (nI (B.getD i 0)) := by
  obtain ⟨h1, h2, h3, h4, h5, h6⟩ := M
  have := h4.1
  rw [ex_al_i h2 (by omega) (by omega), h4.2 i hi]
theorem y_rc (M : isM w m v xs B) : ex_rc w 32 8 = true := ex_rc_o M.1 (by decide) (by decide)
theorem y_behindOk (M : isM w m v xs B) (hf : m 18 = -1) (h : p + n ≤ limN B) : ex_call X 130 [.ref 32, .int (nI p), .int (nI n)] w = some (some (.int (nI (p + n))), w) := by
  obtain ⟨h1, h2, h3, h4, h5, h6⟩ := M
  have z1 : (32 : Nat) < 1000 := by decide
  have hl := limN_le B
  have hb := h4.1
  have e0 : (-1 : Int32) < 0 := by decide
  have e1 : ¬ nI B.length < nI (p + n) := nI_nlt (by omega) (by omega)
  have e2 : ¬ (120 : Int32) < nI (p + n) := nI_nlt (a := 120) (b := p + n) (by omega) (by decide)
  show ex_go X 130 0 [(0, .ref 32), (1, .int (nI p)), (2, .int (nI n))] [] w = _
  simp only [s130_0, s130_1 z1, ex_gf_i h1, mo_18, hf, Option.bind_some, s130_4, if_pos e0, s130_9, s130_10, s130_11, nI_add, s130_12, s130_13 z1, mo_5, h6, s130_16, if_neg e1, s130_19, s130_20, s130_21, s130_22, s130_24, if_neg e2, s130_27, s130_28, s130_29, s130_30]
theorem y_behindNo (M : isM w m v xs B) (hf : m 18 = -1) (h : ¬ p + n ≤ limN B) (hp : p + n < 2 ^ 20) : ex_call X 130 [.ref 32, .int (nI p), .int (nI n)] w = some (some (.int (nI p)), mF w m v (nI (limN B))) := by
  obtain ⟨h1, h2, h3, h4, h5, h6⟩ := M
  have z1 : (32 : Nat) < 1000 := by decide
  have hb := h4.1
  have e0 : (-1 : Int32) < 0 := by decide
  have fin : ex_go X 130 31 [(0, .ref 32), (1, .int (nI p))] [] w = some (some (.int (nI p)), mF w m v (nI (limN B))) := by
    simp only [s130_31, s130_32, s130_33 z1, ex_gf_i h1, mo_5, h6, Option.bind_some, s130_36, s130_38]
    unfold limN
    by_cases c : 120 ≤ B.length
    · have e1 : (120 : Int32) ≤ nI B.length := nI_le (a := 120) c (by omega)
      simp only [if_pos e1, s130_48, s130_50 z1, ex_pf_i h1 (k := 18) (by rw [mo_len]; decide), mo_s18, Option.bind_some, s130_53, s130_54]
      rw [Nat.min_eq_right c]
      rfl
    · have e1 : ¬ (120 : Int32) ≤ nI B.length := nI_ge (a := B.length) (b := 120) (by omega) (by decide)
      simp only [if_neg e1, s130_41, s130_42 z1, ex_gf_i h1, mo_5, h6, Option.bind_some, s130_45, s130_50 z1, ex_pf_i h1 (k := 18) (by rw [mo_len]; decide), mo_s18, s130_53, s130_54]
      rw [Nat.min_eq_left (by omega)]
      rfl
  show ex_go X 130 0 [(0, .ref 32), (1, .int (nI p)), (2, .int (nI n))] [] w = _
  simp only [s130_0, s130_1 z1, ex_gf_i h1, mo_18, hf, Option.bind_some, s130_4, if_pos e0, s130_9, s130_10, s130_11, nI_add, s130_12, s130_13 z1, mo_5, h6, s130_16]
  by_cases c : B.length < p + n
  · rw [if_pos (nI_lt c (by omega))]
    exact fin
  · rw [if_neg (nI_nlt (by omega) (by omega))]
    have c2 : 120 < p + n := by
      unfold limN at h
      omega
    have e2 : (120 : Int32) < nI (p + n) := nI_lt (a := 120) c2 (by omega)
    simp only [s130_19, s130_20, s130_21, nI_add, s130_22, s130_24, if_pos e2]
    exact fin
theorem y_behindF {f : Nat} {y z : Int32} (h1 : w[32]? = some (.inl (8, mo m v))) (hf : m 18 = nI f) (hf2 : f < 2 ^ 31) : ex_call X 130 [.ref 32, .int y, .int z] w = some (some (.int y), w) := by
  have z1 : (32 : Nat) < 1000 := by decide
  have e0 : ¬ nI f < 0 := nI_pos hf2
  show ex_go X 130 0 [(0, .ref 32), (1, .int y), (2, .int z)] [] w = _
  simp only [s130_0, s130_1 z1, ex_gf_i h1, mo_18, hf, Option.bind_some, s130_4, if_neg e0, s130_7, s130_8]
/-- n bytes, then as many as the last of them says -/
theorem y_bytes (M : isM w m v xs B) (hf : m 18 = -1) (hn : 1 ≤ n) (hn2 : n ≤ 3) (hp : p ≤ 200) : (p + n + B.getD (p + n - 1) 0 ≤ limN B → ex_call X 133 [.ref 32, .int (nI p), .int (nI n)] w = some (some (.int (nI (p + n + B.getD (p + n - 1) 0))), w)) ∧ (¬ p + n + B.getD (p + n - 1) 0 ≤ limN B → ∃ y, ex_call X 133 [.ref 32, .int (nI p), .int (nI n)] w = some (some (.int y), mF w m v (nI (limN B)))) := by
  have z1 : (32 : Nat) < 1000 := by decide
  have z2 : (35 : Nat) < 1000 := by decide
  have h1 := M.1
  have rc := y_rc M
  have hl := limN_le B
  have e0 : ¬ (0 : Int32) ≤ -nI 1 := by decide
  have hb := M.2.2.2.2.1 (p + n - 1)
  by_cases c : p + n ≤ limN B
  · have rd := y_rd M (i := p + n - 1) (by omega)
    have es : nI (p + n) - nI 1 = nI (p + n - 1) := pk_sub (by omega)
    refine ⟨fun h => ?_, fun h => ⟨nI (p + n), ?_⟩⟩
    · show ex_go X 133 0 [(0, .ref 32), (1, .int (nI p)), (2, .int (nI n))] [] w = _
      simp only [s133_0, s133_1, s133_2, s133_3 rc, y_behindOk M hf c, Option.bind_some, Option.toList_some, List.cons_append, List.nil_append, s133_6, s133_7, s133_8 z1, ex_gf_i h1, mo_18, hf, s133_11, if_neg e0, s133_14, s133_15, s133_16, s133_17 z1, mo_4, s133_20, s133_21, L1, s133_22, es, s133_23 z2, rd, s133_24 rc, y_behindOk M hf h, s133_27, s133_31]
    · show ex_go X 133 0 [(0, .ref 32), (1, .int (nI p)), (2, .int (nI n))] [] w = _
      simp only [s133_0, s133_1, s133_2, s133_3 rc, y_behindOk M hf c, Option.bind_some, Option.toList_some, List.cons_append, List.nil_append, s133_6, s133_7, s133_8 z1, ex_gf_i h1, mo_18, hf, s133_11, if_neg e0, s133_14, s133_15, s133_16, s133_17 z1, mo_4, s133_20, s133_21, L1, s133_22, es, s133_23 z2, rd, s133_24 rc, y_behindNo M hf h (by omega), s133_27, s133_31]
  · refine ⟨fun h => absurd h (by omega), fun h => ⟨nI p, ?_⟩⟩
    have MF := isM_F (f := nI (limN B)) M
    have e1 : (0 : Int32) ≤ nI (limN B) := nI_pos' (by omega)
    have eu : upd m 18 (nI (limN B)) 18 = nI (limN B) := pk_us
    show ex_go X 133 0 [(0, .ref 32), (1, .int (nI p)), (2, .int (nI n))] [] w = _
    simp only [s133_0, s133_1, s133_2, s133_3 rc, y_behindNo M hf c (by omega), Option.bind_some, Option.toList_some, List.cons_append, List.nil_append, s133_6, s133_7, s133_8 z1, ex_gf_i MF.1, mo_18, eu, s133_11, if_pos e1, s133_30, s133_31]
theorem y_entry (M : isM w m v xs B) (hf : m 18 = -1) (hp : p ≤ 120) : (∀ e, stepN B 0 p = .inr e → ex_call X 132 [.ref 32, .int (nI p)] w = some (some (.int (nI e)), w)) ∧ (∀ f, stepN B 0 p = .inl f → ∃ y, ex_call X 132 [.ref 32, .int (nI p)] w = some (some (.int y), mF w m v (nI f))) := by
  have z1 : (32 : Nat) < 1000 := by decide
  have z2 : (35 : Nat) < 1000 := by decide
  have h1 := M.1
  have rc := y_rc M
  have hl := limN_le B
  have e0 : -nI 1 < (0 : Int32) := by decide
  have hx := M.2.2.2.2.1 p
  have hx1 := M.2.2.2.2.1 (p + 1)
  unfold stepN iEnd eEnd
  by_cases c : p + 1 ≤ limN B
  · have rd := y_rd M (i := p) (by omega)
    have bo := y_behindOk (X := X) (p := p) (n := 1) M hf c
    have head : ex_call X 132 [.ref 32, .int (nI p)] w = ex_go X 132 23 [(0, .ref 32), (1, .int (nI p)), (2, .int (nI (p + 1))), (3, .int (nI (B.getD p 0)))] [] w := by
      show ex_go X 132 0 [(0, .ref 32), (1, .int (nI p))] [] w = _
      simp only [s132_0, s132_1, s132_2, L1, s132_3 rc, bo, Option.bind_some, Option.toList_some, List.cons_append, List.nil_append, s132_6, s132_7, s132_8 z1, ex_gf_i h1, mo_18, hf, s132_11, if_pos e0, s132_16, s132_17 z1, mo_4, s132_20, s132_21 z2, rd, s132_22]
    rw [head]
    by_cases ck : 1 ≤ B.getD p 0 ∧ B.getD p 0 ≤ 4
    · have n1 : ¬ (0 = 0 ∧ p < limN B ∧ ¬ (1 ≤ B.getD p 0 ∧ B.getD p 0 ≤ 4)) := fun z => z.2.2 ck
      rw [if_neg n1, if_pos rfl]
      have e1 : ¬ nI (B.getD p 0) < nI 1 := nI_nlt ck.1 (by omega)
      have e2 : nI (B.getD p 0) ≤ nI 4 := nI_le ck.2 (by decide)
      have pre : ex_go X 132 23 [(0, .ref 32), (1, .int (nI p)), (2, .int (nI (p + 1))), (3, .int (nI (B.getD p 0)))] [] w = if ¬ B.getD p 0 = 2 then ex_go X 132 52 [(0, .ref 32), (2, .int (nI (p + 1))), (3, .int (nI (B.getD p 0)))] [] w else ex_go X 132 45 [(0, .ref 32), (2, .int (nI (p + 1))), (3, .int (nI (B.getD p 0)))] [] w := by
        simp only [s132_23, s132_24, L1, s132_25, if_neg e1, s132_28, s132_29, L4, s132_30, if_pos e2, s132_40, s132_41, L2, s132_42]
        simp (disch := omega) only [nI_eq]
      rw [pre]
      by_cases k2 : B.getD p 0 = 2
      · have hy := y_bytes (X := X) (p := p + 1) (n := 1) M hf (by omega) (by omega) (by omega)
        rw [show p + 1 + 1 - 1 = p + 1 by omega, show p + 1 + 1 = p + 2 by omega] at hy
        rw [if_neg (show ¬ B.getD p 0 = 1 by omega), if_pos k2, if_neg (show ¬ ¬ B.getD p 0 = 2 from fun z => z k2)]
        refine ⟨fun e he => ?_, fun f hfl => ?_⟩
        · by_cases q : p + 2 + B.getD (p + 1) 0 ≤ limN B
          · rw [if_pos q] at he
            cases he
            simp only [s132_45, s132_46, s132_47, L1, s132_48 rc, hy.1 q, Option.bind_some, Option.toList_some, List.cons_append, List.nil_append, s132_51]
          · rw [if_neg q] at he
            cases he
        · by_cases q : p + 2 + B.getD (p + 1) 0 ≤ limN B
          · rw [if_pos q] at hfl
            cases hfl
          · rw [if_neg q] at hfl
            cases hfl
            obtain ⟨y, hy2⟩ := hy.2 q
            refine ⟨y, ?_⟩
            simp only [s132_45, s132_46, s132_47, L1, s132_48 rc, hy2, Option.bind_some, Option.toList_some, List.cons_append, List.nil_append, s132_51]
      · rw [if_pos k2, if_neg k2]
        have go74 : ∃ t : Nat, t ≤ 8 ∧ p + 1 + t = (if B.getD p 0 = 1 then p + 5 else if B.getD p 0 = 3 then p + 3 else p + 9) ∧ ex_go X 132 52 [(0, .ref 32), (2, .int (nI (p + 1))), (3, .int (nI (B.getD p 0)))] [] w = ex_go X 132 74 [] [.int (nI t), .int (nI (p + 1)), .ref 32] w := by
          by_cases k1 : B.getD p 0 = 1
          · refine ⟨4, by omega, by rw [if_pos k1], ?_⟩
            have q : ¬ ¬ nI (B.getD p 0) = nI 1 := fun z => z (by rw [k1])
            simp only [s132_52, s132_53, s132_54, s132_55, L1, s132_56, if_neg q, s132_59, s132_60, L4]
          · have q : ¬ nI (B.getD p 0) = nI 1 := fun z => k1 ((nI_eq (by omega) (by decide)).mp z)
            by_cases k3 : B.getD p 0 = 3
            · refine ⟨2, by omega, by rw [if_neg k1, if_pos k3], ?_⟩
              have q3 : ¬ ¬ nI (B.getD p 0) = nI 3 := fun z => z (by rw [k3])
              simp only [s132_52, s132_53, s132_54, s132_55, L1, s132_56, if_pos q, s132_63, s132_64, L3, s132_65, if_neg q3, s132_68, s132_69, L2]
            · refine ⟨8, by omega, by rw [if_neg k1, if_neg k3], ?_⟩
              have q3 : ¬ nI (B.getD p 0) = nI 3 := fun z => k3 ((nI_eq (by omega) (by decide)).mp z)
              simp only [s132_52, s132_53, s132_54, s132_55, L1, s132_56, if_pos q, s132_63, s132_64, L3, s132_65, if_pos q3, s132_72, L8]
        obtain ⟨t, ht8, ht, gt⟩ := go74
        rw [gt, ← ht]
        refine ⟨fun e he => ?_, fun f hfl => ?_⟩
        · by_cases q : p + 1 + t ≤ limN B
          · rw [if_pos q] at he
            cases he
            simp only [s132_74 rc, y_behindOk M hf q, Option.bind_some, Option.toList_some, List.cons_append, List.nil_append, s132_77]
          · rw [if_neg q] at he
            cases he
        · by_cases q : p + 1 + t ≤ limN B
          · rw [if_pos q] at hfl
            cases hfl
          · rw [if_neg q] at hfl
            cases hfl
            refine ⟨nI (p + 1), ?_⟩
            simp only [s132_74 rc, y_behindNo M hf q (by omega), Option.bind_some, Option.toList_some, List.cons_append, List.nil_append, s132_77]
    · have n1 : 0 = 0 ∧ p < limN B ∧ ¬ (1 ≤ B.getD p 0 ∧ B.getD p 0 ≤ 4) := ⟨rfl, by omega, ck⟩
      rw [if_pos n1]
      refine ⟨fun e he => (by cases he), fun f hfl => ⟨nI (p + 1), ?_⟩⟩
      cases hfl
      have fin : ex_go X 132 33 [(0, .ref 32), (1, .int (nI p)), (2, .int (nI (p + 1)))] [] w = some (some (.int (nI (p + 1))), mF w m v (nI p)) := by
        simp only [s132_33, s132_34, s132_35 z1, ex_pf_i h1 (k := 18) (by rw [mo_len]; decide), mo_s18, Option.bind_some, s132_38, s132_39]
        rfl
      by_cases k1 : B.getD p 0 < 1
      · have e1 : nI (B.getD p 0) < nI 1 := nI_lt k1 (by decide)
        simp only [s132_23, s132_24, L1, s132_25, if_pos e1]
        exact fin
      · have e1 : ¬ nI (B.getD p 0) < nI 1 := nI_nlt (by omega) (by omega)
        have e2 : ¬ nI (B.getD p 0) ≤ nI 4 := nI_ge (by omega) (by omega)
        simp only [s132_23, s132_24, L1, s132_25, if_neg e1, s132_28, s132_29, L4, s132_30, if_neg e2]
        exact fin
  · have hg : ¬ iEnd B 0 p ≤ limN B := by have := iEnd_gt B 0 p; omega
    have n1 : ¬ (0 = 0 ∧ p < limN B ∧ ¬ (1 ≤ B.getD p 0 ∧ B.getD p 0 ≤ 4)) := fun z => by omega
    rw [if_neg n1, if_pos rfl]
    have hg2 : ¬ (if B.getD p 0 = 1 then p + 5 else if B.getD p 0 = 2 then p + 2 + B.getD (p + 1) 0 else if B.getD p 0 = 3 then p + 3 else p + 9) ≤ limN B := hg
    rw [if_neg hg2]
    refine ⟨fun e he => (by cases he), fun f hfl => ⟨nI p, ?_⟩⟩
    cases hfl
    have MF := isM_F (f := nI (limN B)) M
    have eu : upd m 18 (nI (limN B)) 18 = nI (limN B) := pk_us
    have e1 : ¬ nI (limN B) < 0 := nI_pos (by omega)
    have bn := y_behindNo (X := X) (p := p) (n := 1) M hf c (by omega)
    show ex_go X 132 0 [(0, .ref 32), (1, .int (nI p))] [] w = _
    simp only [s132_0, s132_1, s132_2, L1, s132_3 rc, bn, Option.bind_some, Option.toList_some, List.cons_append, List.nil_append, s132_6, s132_7, s132_8 z1, ex_gf_i MF.1, mo_18, eu, s132_11, if_neg e1, s132_14, s132_15]
end MTAKE
