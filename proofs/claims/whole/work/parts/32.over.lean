/-! the other object's scan: items, parts, the whole -/
section MOVER
variable {X : Option (List Int32)} {w : ex_W} {m : Nat → Int32} {v : Int64} {xs : List Int32} {B : List Nat} {p n i part : Nat}
theorem y_step {many k : Nat} (M : isM w m v xs B) (hf : m 18 = -1) (hp : p ≤ 120) (hk : part ≤ 3) : (∀ e, stepN B part p = .inr e → ex_go X 131 43 [(0, .ref 32), (1, .int (nI part)), (3, .int (nI p)), (4, .int (nI many)), (5, .int (nI k))] [] w = ex_go X 131 29 [(0, .ref 32), (1, .int (nI part)), (3, .int (nI e)), (4, .int (nI many)), (5, .int (nI (k + 1)))] [] w) ∧ (∀ f, stepN B part p = .inl f → ∃ y, ex_go X 131 43 [(0, .ref 32), (1, .int (nI part)), (3, .int (nI p)), (4, .int (nI many)), (5, .int (nI k))] [] w = ex_go X 131 29 [(0, .ref 32), (1, .int (nI part)), (3, .int y), (4, .int (nI many)), (5, .int (nI (k + 1)))] [] (mF w m v (nI f))) := by
  have rc := y_rc M
  have hx1 := M.2.2.2.2.1 (p + 1)
  have hx2 := M.2.2.2.2.1 (p + 2)
  by_cases c0 : part = 0
  · subst c0
    have q : ¬ ¬ nI 0 = 0 := by decide
    obtain ⟨g1, g2⟩ := y_entry (X := X) (p := p) M hf hp
    refine ⟨fun e he => ?_, fun f hfl => ?_⟩
    · simp only [s131_43, s131_44, if_neg q, s131_47, s131_48, s131_49 rc, g1 e he, Option.bind_some, Option.toList_some, List.cons_append, List.nil_append, s131_52, s131_84, s131_85, nI_1, s131_88]
    · obtain ⟨y, hy⟩ := g2 f hfl
      refine ⟨y, ?_⟩
      simp only [s131_43, s131_44, if_neg q, s131_47, s131_48, s131_49 rc, hy, Option.bind_some, Option.toList_some, List.cons_append, List.nil_append, s131_52, s131_84, s131_85, nI_1, s131_88]
  · have q0 : ¬ nI part = 0 := fun z => c0 ((nI_eq (b := 0) (by omega) (by decide)).mp z)
    have st : stepN B part p = if iEnd B part p ≤ limN B then .inr (iEnd B part p) else .inl (limN B) := by
      unfold stepN
      rw [if_neg (fun z => c0 z.1)]
    rw [st]
    by_cases c1 : part = 1
    · subst c1
      have q1 : ¬ ¬ nI 1 = nI 1 := fun z => z rfl
      have ee : iEnd B 1 p = p + 2 := rfl
      rw [ee]
      refine ⟨fun e he => ?_, fun f hfl => ?_⟩
      · by_cases q : p + 2 ≤ limN B
        · rw [if_pos q] at he
          cases he
          simp only [s131_43, s131_44, if_pos q0, s131_55, s131_56, L1, s131_57, not_true_eq_false, if_false, s131_60, s131_61, s131_62, L2, s131_63 rc, y_behindOk M hf q, Option.bind_some, Option.toList_some, List.cons_append, List.nil_append, s131_66, s131_84, s131_85, nI_add, s131_88]
        · rw [if_neg q] at he
          cases he
      · by_cases q : p + 2 ≤ limN B
        · rw [if_pos q] at hfl
          cases hfl
        · rw [if_neg q] at hfl
          cases hfl
          refine ⟨nI p, ?_⟩
          simp only [s131_43, s131_44, if_pos q0, s131_55, s131_56, L1, s131_57, not_true_eq_false, if_false, s131_60, s131_61, s131_62, L2, s131_63 rc, y_behindNo M hf q (by omega), Option.bind_some, Option.toList_some, List.cons_append, List.nil_append, s131_66, s131_84, s131_85, nI_add, s131_88]
    · have q1 : ¬ nI part = nI 1 := fun z => c1 ((nI_eq (by omega) (by decide)).mp z)
      have go81 : ∃ t : Nat, 1 ≤ t ∧ t ≤ 3 ∧ p + t + B.getD (p + t - 1) 0 = iEnd B part p ∧ ex_go X 131 43 [(0, .ref 32), (1, .int (nI part)), (3, .int (nI p)), (4, .int (nI many)), (5, .int (nI k))] [] w = ex_go X 131 81 [(0, .ref 32), (1, .int (nI part)), (4, .int (nI many)), (5, .int (nI k))] [.int (nI t), .int (nI p), .ref 32] w := by
        by_cases c2 : part = 2
        · subst c2
          have q2 : ¬ ¬ nI 2 = nI 2 := fun z => z rfl
          refine ⟨3, by omega, by omega, ?_, ?_⟩
          · rw [show p + 3 - 1 = p + 2 by omega]; rfl
          · simp only [s131_43, s131_44, if_pos q0, s131_55, s131_56, L1, s131_57, if_pos q1, s131_69, s131_70, s131_71, s131_72, L2, s131_73, not_true_eq_false, if_false, s131_76, s131_77, L3]
        · have c3 : part = 3 := by omega
          subst c3
          have q2 : ¬ nI 3 = nI 2 := by decide
          refine ⟨2, by omega, by omega, ?_, ?_⟩
          · rw [show p + 2 - 1 = p + 1 by omega]; rfl
          · simp only [s131_43, s131_44, if_pos q0, s131_55, s131_56, L1, s131_57, if_pos q1, s131_69, s131_70, s131_71, s131_72, L2, s131_73, if_pos q2, s131_80]
      obtain ⟨t, t1, t3, te, gt⟩ := go81
      obtain ⟨g1, g2⟩ := y_bytes (X := X) (p := p) (n := t) M hf t1 t3 (by omega)
      rw [te] at g1 g2
      rw [gt]
      refine ⟨fun e he => ?_, fun f hfl => ?_⟩
      · by_cases q : iEnd B part p ≤ limN B
        · rw [if_pos q] at he
          cases he
          simp only [s131_81 rc, g1 q, Option.bind_some, Option.toList_some, List.cons_append, List.nil_append, s131_84, s131_85, nI_1, s131_88]
        · rw [if_neg q] at he
          cases he
      · by_cases q : iEnd B part p ≤ limN B
        · rw [if_pos q] at hfl
          cases hfl
        · rw [if_neg q] at hfl
          cases hfl
          obtain ⟨y, hy⟩ := g2 q
          refine ⟨y, ?_⟩
          simp only [s131_81 rc, hy, Option.bind_some, Option.toList_some, List.cons_append, List.nil_append, s131_84, s131_85, nI_1, s131_88]
theorem y_stop {f many k : Nat} {y : Int32} (h1 : w[32]? = some (.inl (8, mo m v))) (hf : m 18 = nI f) (hf2 : f < 2 ^ 31) : ex_go X 131 29 [(0, .ref 32), (1, .int (nI part)), (3, .int y), (4, .int (nI many)), (5, .int (nI k))] [] w = some (some (.int y), w) := by
  have z1 : (32 : Nat) < 1000 := by decide
  have e0 : (0 : Int32) ≤ nI f := nI_pos' hf2
  rw [s131_29]
  simp only [s131_31, s131_33, s131_36, s131_37 z1, ex_gf_i h1, mo_18, hf, Option.bind_some, s131_40, if_pos e0, s131_91, s131_92]
  split <;> rfl
theorem y_items (M : isM w m v xs B) (hf : m 18 = -1) (hk : part ≤ 3) {many : Nat} (hm : many < 256) : ∀ (k i p : Nat), i + k = many → p ≤ limN B → (∀ e, itemsN B part k p = .inr e → ex_go X 131 29 [(0, .ref 32), (1, .int (nI part)), (3, .int (nI p)), (4, .int (nI many)), (5, .int (nI i))] [] w = some (some (.int (nI e)), w)) ∧ (∀ f, itemsN B part k p = .inl f → ∃ y, ex_go X 131 29 [(0, .ref 32), (1, .int (nI part)), (3, .int (nI p)), (4, .int (nI many)), (5, .int (nI i))] [] w = some (some (.int y), mF w m v (nI f))) := by
  have hl := limN_le B
  have h1 := M.1
  have z1 : (32 : Nat) < 1000 := by decide
  intro k
  induction k with
  | zero =>
    intro i p hi hp
    refine ⟨fun e he => ?_, fun f hfl => (by cases hfl)⟩
    cases he
    have e1 : nI many ≤ nI i := nI_le (by omega) (by omega)
    rw [s131_29]
    simp only [s131_31, s131_33, if_pos e1, s131_91, s131_92]
  | succ k ih =>
    intro i p hi hp
    have e1 : ¬ nI many ≤ nI i := nI_ge (by omega) (by omega)
    have e0 : ¬ (0 : Int32) ≤ -1 := by decide
    obtain ⟨g1, g2⟩ := y_step (X := X) (many := many) (k := i) (p := p) M hf (by omega) hk
    have head : ex_go X 131 29 [(0, .ref 32), (1, .int (nI part)), (3, .int (nI p)), (4, .int (nI many)), (5, .int (nI i))] [] w = ex_go X 131 43 [(0, .ref 32), (1, .int (nI part)), (3, .int (nI p)), (4, .int (nI many)), (5, .int (nI i))] [] w := by
      rw [s131_29]
      simp only [s131_31, s131_33, if_neg e1, s131_36, s131_37 z1, ex_gf_i h1, mo_18, hf, Option.bind_some, s131_40, if_neg e0]
    rw [head, itemsN]
    cases hs : stepN B part p with
    | inl f =>
      refine ⟨fun e he => (by cases he), fun f2 hfl => ?_⟩
      cases hfl
      obtain ⟨y, hy⟩ := g2 f hs
      have hfb : f ≤ 120 := by
        unfold stepN at hs
        split at hs
        next c => cases hs; omega
        next =>
          split at hs
          next => cases hs
          next => cases hs; omega
      refine ⟨y, ?_⟩
      rw [hy]
      exact y_stop (f := f) (isM_F M).1 pk_us (by omega)
    | inr e2 =>
      have he2 : e2 ≤ limN B := by
        unfold stepN at hs
        split at hs
        next => cases hs
        next =>
          split at hs
          next c => cases hs; exact c
          next => cases hs
      rw [g1 e2 hs]
      exact ih (i + 1) e2 (by omega) he2
theorem y_over (M : isM w m v xs B) (hf : m 18 = -1) (hk : part ≤ 3) (hp : p ≤ 120) : (¬ p < limN B → ∃ y, ex_call X 131 [.ref 32, .int (nI part), .int (nI p)] w = some (some (.int y), mF w m v (nI (limN B)))) ∧ (p < limN B → (∀ e, itemsN B part (B.getD p 0) (p + 1) = .inr e → ex_call X 131 [.ref 32, .int (nI part), .int (nI p)] w = some (some (.int (nI e)), w)) ∧ (∀ f, itemsN B part (B.getD p 0) (p + 1) = .inl f → ∃ y, ex_call X 131 [.ref 32, .int (nI part), .int (nI p)] w = some (some (.int y), mF w m v (nI f)))) := by
  have hl := limN_le B
  have h1 := M.1
  have rc := y_rc M
  have z1 : (32 : Nat) < 1000 := by decide
  have z2 : (35 : Nat) < 1000 := by decide
  constructor
  · intro c
    have bn := y_behindNo (X := X) (p := p) (n := 1) M hf (by omega) (by omega)
    have MF := isM_F (f := nI (limN B)) M
    have eu : upd m 18 (nI (limN B)) 18 = nI (limN B) := pk_us
    have e1 : (0 : Int32) ≤ nI (limN B) := nI_pos' (by omega)
    refine ⟨nI p, ?_⟩
    have st := y_stop (X := X) (part := part) (many := 0) (k := 0) (y := nI p) (f := limN B) MF.1 eu (by omega)
    show ex_go X 131 0 [(0, .ref 32), (1, .int (nI part)), (2, .int (nI p))] [] w = _
    rw [← L1] at bn
    simp only [s131_0, s131_1, s131_2, s131_3 rc, bn, Option.bind_some, Option.toList_some, List.cons_append, List.nil_append, s131_6, s131_7, s131_8 z1, ex_gf_i MF.1, mo_18, eu, s131_11, if_pos e1, s131_23, s131_24, s131_26, s131_27]
    exact st
  · intro c
    have bo := y_behindOk (X := X) (p := p) (n := 1) M hf (by omega)
    have rd := y_rd M (i := p) (by omega)
    have e1 : ¬ (0 : Int32) ≤ -1 := by decide
    have hm := M.2.2.2.2.1 p
    have head : ex_call X 131 [.ref 32, .int (nI part), .int (nI p)] w = ex_go X 131 29 [(0, .ref 32), (1, .int (nI part)), (3, .int (nI (p + 1))), (4, .int (nI (B.getD p 0))), (5, .int (nI 0))] [] w := by
      show ex_go X 131 0 [(0, .ref 32), (1, .int (nI part)), (2, .int (nI p))] [] w = _
      rw [← L1] at bo
      simp only [s131_0, s131_1, s131_2, s131_3 rc, bo, Option.bind_some, Option.toList_some, List.cons_append, List.nil_append, s131_6, s131_7, s131_8 z1, ex_gf_i h1, mo_18, hf, s131_11, if_neg e1, s131_14, s131_15 z1, mo_4, s131_18, s131_19 z2, rd, s131_20, s131_24, s131_26, s131_27, nI_0]
    rw [head]
    exact y_items M hf hk hm (B.getD p 0) 0 (p + 1) (by omega) (by omega)
theorem y_overF {f : Nat} {y : Int32} (h1 : w[32]? = some (.inl (8, mo m v))) (hf : m 18 = nI f) (hf2 : f < 2 ^ 31) : ex_call X 131 [.ref 32, .int (nI part), .int y] w = some (some (.int y), w) := by
  have z1 : (32 : Nat) < 1000 := by decide
  have rc := ex_rc_o h1 (by decide) (by decide)
  have e1 : (0 : Int32) ≤ nI f := nI_pos' hf2
  have st := y_stop (X := X) (part := part) (many := 0) (k := 0) (y := y) (f := f) h1 hf hf2
  show ex_go X 131 0 [(0, .ref 32), (1, .int (nI part)), (2, .int y)] [] w = _
  simp only [s131_0, s131_1, s131_2, s131_3 rc, y_behindF h1 hf hf2, Option.bind_some, Option.toList_some, List.cons_append, List.nil_append, s131_6, s131_7, s131_8 z1, ex_gf_i h1, mo_18, hf, s131_11, if_pos e1, s131_23, s131_24, s131_26, s131_27]
  exact st
theorem y_partsF {f : Nat} (h1 : w[32]? = some (.inl (8, mo m v))) (hf : m 18 = nI f) (hf2 : f < 2 ^ 31) : ∀ (r : Nat) (y : Int32), r ≤ 4 → ex_go X 129 44 [(0, .ref 32), (1, .int y), (2, .int (nI (4 - r)))] [] w = ex_go X 129 62 [(0, .ref 32), (1, .int y)] [] w := by
  have rc := ex_rc_o h1 (by decide) (by decide)
  intro r
  induction r with
  | zero =>
    intro y _
    have e : (4 : Int32) ≤ nI (4 - 0) := by decide
    rw [s129_44]
    simp only [s129_45, s129_46, if_pos e]
  | succ r ih =>
    intro y hr
    have e : ¬ (4 : Int32) ≤ nI (4 - (r + 1)) := nI_ge (a := 4 - (r + 1)) (b := 4) (by omega) (by decide)
    rw [s129_44]
    simp only [s129_45, s129_46, if_neg e, s129_49, s129_50, s129_51, s129_52 rc, y_overF h1 hf hf2, Option.bind_some, Option.toList_some, List.cons_append, List.nil_append, s129_55, s129_56, nI_1, s129_59]
    rw [show 4 - (r + 1) + 1 = 4 - r by omega]
    exact ih y (by omega)
theorem y_parts (M : isM w m v xs B) (hf : m 18 = -1) : ∀ (r p : Nat), r ≤ 4 → p ≤ 120 → (∀ e, partsN B r p = .inr e → ex_go X 129 44 [(0, .ref 32), (1, .int (nI p)), (2, .int (nI (4 - r)))] [] w = ex_go X 129 62 [(0, .ref 32), (1, .int (nI e))] [] w) ∧ (∀ f, partsN B r p = .inl f → f ≤ 120 ∧ ∃ y, ex_go X 129 44 [(0, .ref 32), (1, .int (nI p)), (2, .int (nI (4 - r)))] [] w = ex_go X 129 62 [(0, .ref 32), (1, .int y)] [] (mF w m v (nI f))) := by
  have rc := y_rc M
  have hl := limN_le B
  intro r
  induction r with
  | zero =>
    intro p _ hp
    refine ⟨fun e he => ?_, fun f hfl => (by cases hfl)⟩
    cases he
    have e : (4 : Int32) ≤ nI (4 - 0) := by decide
    rw [s129_44]
    simp only [s129_45, s129_46, if_pos e]
  | succ r ih =>
    intro p hr hp
    have e4 : ¬ (4 : Int32) ≤ nI (4 - (r + 1)) := nI_ge (a := 4 - (r + 1)) (b := 4) (by omega) (by decide)
    have ep : 4 - (r + 1) = 3 - r := by omega
    obtain ⟨o1, o2⟩ := y_over (X := X) (part := 4 - (r + 1)) (p := p) M hf (by omega) hp
    rw [partsN]
    by_cases c : p < limN B
    · rw [if_pos c]
      obtain ⟨o3, o4⟩ := o2 c
      rw [ep] at o3 o4
      cases hi : itemsN B (3 - r) (B.getD p 0) (p + 1) with
      | inl f =>
        refine ⟨fun e he => (by cases he), fun f2 hfl => ?_⟩
        cases hfl
        obtain ⟨y, hy⟩ := o4 f hi
        rw [← ep] at hy
        have hfb : ∀ (k p2 : Nat), p2 ≤ 120 → ∀ f3, itemsN B (3 - r) k p2 = .inl f3 → f3 ≤ 120 := by
          intro k
          induction k with
          | zero => intro p2 _ f3 h3; cases h3
          | succ k ihk =>
            intro p2 hp2 f3 h3
            rw [itemsN] at h3
            unfold stepN at h3
            split at h3
            next f4 h4 =>
              cases h3
              split at h4
              next => cases h4; exact hp2
              next =>
                split at h4
                next => cases h4
                next => cases h4; omega
            next e4 h4 =>
              split at h4
              next => cases h4
              next =>
                split at h4
                next hle => cases h4; exact ihk _ (by omega) f3 h3
                next => cases h4
        have hfb := hfb _ _ (by omega) f hi
        refine ⟨hfb, y, ?_⟩
        rw [s129_44]
        simp only [s129_45, s129_46, if_neg e4, s129_49, s129_50, s129_51, s129_52 rc, hy, Option.bind_some, Option.toList_some, List.cons_append, List.nil_append, s129_55, s129_56, nI_1, s129_59]
        rw [show 4 - (r + 1) + 1 = 4 - r by omega]
        exact y_partsF (f := f) (isM_F M).1 pk_us (by omega) r y (by omega)
      | inr e2 =>
        have hy := o3 e2 hi
        rw [← ep] at hy
        obtain ⟨-, t2, -⟩ := itemsN_inr _ _ _ hi
        have t2 := t2 (by omega)
        obtain ⟨i1, i2⟩ := ih e2 (by omega) (by omega)
        have step : ex_go X 129 44 [(0, .ref 32), (1, .int (nI p)), (2, .int (nI (4 - (r + 1))))] [] w = ex_go X 129 44 [(0, .ref 32), (1, .int (nI e2)), (2, .int (nI (4 - r)))] [] w := by
          rw [s129_44]
          simp only [s129_45, s129_46, if_neg e4, s129_49, s129_50, s129_51, s129_52 rc, hy, Option.bind_some, Option.toList_some, List.cons_append, List.nil_append, s129_55, s129_56, nI_1, s129_59]
          rw [show 4 - (r + 1) + 1 = 4 - r by omega]
        rw [step]
        exact ⟨i1, i2⟩
    · rw [if_neg c]
      refine ⟨fun e he => (by cases he), fun f2 hfl => ?_⟩
      cases hfl
      obtain ⟨y, hy⟩ := o1 c
      refine ⟨by omega, y, ?_⟩
      rw [s129_44]
      simp only [s129_45, s129_46, if_neg e4, s129_49, s129_50, s129_51, s129_52 rc, hy, Option.bind_some, Option.toList_some, List.cons_append, List.nil_append, s129_55, s129_56, nI_1, s129_59]
      rw [show 4 - (r + 1) + 1 = 4 - r by omega]
      exact y_partsF (f := limN B) (isM_F M).1 pk_us (by omega) r y (by omega)
end MOVER
