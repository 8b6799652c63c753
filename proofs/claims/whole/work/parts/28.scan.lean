/-! the scan of a row of bytes: where it is faulty, where its parts are -/
def limN (B : List Nat) : Nat := min B.length 120
def stepN (B : List Nat) (part p : Nat) : Nat ⊕ Nat := if part = 0 ∧ p < limN B ∧ ¬ (1 ≤ B.getD p 0 ∧ B.getD p 0 ≤ 4) then .inl p else if iEnd B part p ≤ limN B then .inr (iEnd B part p) else .inl (limN B)
def itemsN (B : List Nat) (part : Nat) : Nat → Nat → Nat ⊕ Nat
  | 0, p => .inr p
  | k + 1, p => match stepN B part p with
    | .inl f => .inl f
    | .inr e => itemsN B part k e
/-- the place of item n of those that begin at p -/
def itN (B : List Nat) (part : Nat) : Nat → Nat → Nat
  | p, 0 => p
  | p, n + 1 => itN B part (iEnd B part p) n
theorem limN_le (B : List Nat) : limN B ≤ 120 ∧ limN B ≤ B.length := ⟨Nat.min_le_right _ _, Nat.min_le_left _ _⟩
theorem iEnd_gt (B : List Nat) (part p : Nat) : p + 2 ≤ iEnd B part p := by
  unfold iEnd eEnd
  split
  · split
    · omega
    · split
      · omega
      · split <;> omega
  · split
    · omega
    · split <;> omega
theorem iEnd_lt {B : List Nat} (hB : ∀ j, B.getD j 0 < 256) (part p : Nat) : iEnd B part p ≤ p + 300 := by
  unfold iEnd eEnd
  have h1 := hB (p + 1)
  have h2 := hB (p + 2)
  split
  · split
    · omega
    · split
      · omega
      · split <;> omega
  · split
    · omega
    · split <;> omega
theorem itemsN_inr {B : List Nat} {part : Nat} : ∀ (k p e : Nat), itemsN B part k p = .inr e → e = itN B part p k ∧ (p ≤ limN B → e ≤ limN B) ∧ p ≤ e := by
  intro k
  induction k with
  | zero => intro p e h; cases h; exact ⟨rfl, fun z => z, Nat.le_refl _⟩
  | succ k ih =>
    intro p e h
    rw [itemsN] at h
    have hg := iEnd_gt B part p
    unfold stepN at h
    split at h
    next f hf => cases h
    next e2 he =>
      split at he
      next => cases he
      next =>
        split at he
        next hl =>
          cases he
          obtain ⟨i1, i2, i3⟩ := ih _ _ h
          exact ⟨i1, fun _ => i2 hl, by omega⟩
        next => cases he
section SCAN
variable {X : Option (List Int32)} {w : ex_W} {b q a cc cp part : Nat} {xs : List Int32} {B : List Nat}
theorem isBlk_set {j : Nat} {c : ex_C} (K : isBlk w b q a cc cp xs B) (h1 : j ≠ b) (h2 : j ≠ q) (h3 : j ≠ a) : isBlk (w.set j c) b q a cc cp xs B := by
  obtain ⟨hb, ⟨r1, r2, r3⟩, H, hh, hB⟩ := K
  exact ⟨ex_set_o h1 hb, ⟨ex_set_o h2 r1, ex_set_o h3 r2, r3⟩, H, hh, hB⟩
/-- from the place behind the look at an entry's kind -/
theorem b_one {many i p : Nat} {zs : List Int32} (K : isBlk w b q a cc cp xs B) (hz : w[cp]? = some (.inr (0, zs))) (hl : zs.length = 40) (hcp : cp < 1000) (hne : cp ≠ b ∧ cp ≠ q ∧ cp ≠ a) (hk : part ≤ 3) (hp : p ≤ 120) (hi : part = 2 → i < 40) (hm : i < 1000) :
    ex_go X 27 103 [(0, .ref b), (1, .int (nI (limN B))), (2, .int (nI p)), (3, .int (nI part)), (4, .int (nI many)), (5, .int (nI i))] [] w =
      if iEnd B part p ≤ limN B then ex_go X 27 71 [(0, .ref b), (1, .int (nI (limN B))), (2, .int (nI (iEnd B part p))), (3, .int (nI part)), (4, .int (nI many)), (5, .int (nI (i + 1)))] [] (w.set cp (.inr (0, if part = 2 then zs.set i (nI p) else zs)))
      else some (some (.int (nI (limN B))), w.set cp (.inr (0, if part = 2 then zs.set i (nI p) else zs))) := by
  have hb := K.1
  have h1 := K.2.2.2.1
  have hlim := limN_le B
  have hlt := iEnd_lt K.2.2.2.2 part p
  by_cases c2 : part = 2
  · have hi2 := hi c2
    have e1 : ¬ ¬ nI part = 2 := fun z => z (by rw [c2]; rfl)
    have e2 : ¬ nI zs.length ≤ nI i := by rw [hl]; exact nI_ge hi2 (by decide)
    have K1 := isBlk_set (c := .inr (0, zs.set i (nI p))) K hne.1 hne.2.1 hne.2.2
    have rb := ex_rc_o K1.1 h1 (by decide)
    have ci := b_itemEnd (X := X) (p := p) (part := part) K1 (by omega) hk
    simp only [s27_103, s27_104, s27_105, if_neg e1, s27_108, s27_110, s27_111 h1, ex_gf_i hb, List.getElem?_cons_zero, List.getElem?_cons_succ, Option.bind_some, s27_114 hcp, ex_an_i hz, s27_115, if_neg e2, s27_118, s27_119 h1, s27_122, s27_124, s27_125 hcp, ex_as_i hz (show i < zs.length by omega) (by omega), s27_126, s27_127, s27_128, s27_129 rb, ci, Option.toList_some, List.cons_append, List.nil_append, s27_132, s27_133, s27_134, s27_135, s27_138, s27_139, s27_140, nI_1, s27_143, if_pos c2]
    simp (disch := omega) only [nI_leI]
  · have e1 : ¬ nI part = 2 := fun z => c2 ((nI_eq (b := 2) (by omega) (by decide)).mp z)
    have rb := ex_rc_o hb h1 (by decide)
    have ci := b_itemEnd (X := X) (p := p) (part := part) K (by omega) hk
    simp only [s27_103, s27_104, s27_105, if_pos e1, s27_126, s27_127, s27_128, s27_129 rb, ci, Option.bind_some, Option.toList_some, List.cons_append, List.nil_append, s27_132, s27_133, s27_134, s27_135, s27_138, s27_139, s27_140, nI_1, s27_143, if_neg c2]
    simp (disch := omega) only [nI_leI]
    rw [set_id hz]
theorem b_items (hcp : cp < 1000) (hne : cp ≠ b ∧ cp ≠ q ∧ cp ≠ a) (hk : part ≤ 3) {many : Nat} (hm : many < 256) : ∀ (k i p : Nat) (zs : List Int32) (w : ex_W), isBlk w b q a cc cp xs B → w[cp]? = some (.inr (0, zs)) → zs.length = 40 → i + k = many → p ≤ limN B → (part = 2 → 3 * i + 5 ≤ p) →
    ∃ zs2 : List Int32, zs2.length = 40 ∧ (∀ f, itemsN B part k p = .inl f → ex_go X 27 71 [(0, .ref b), (1, .int (nI (limN B))), (2, .int (nI p)), (3, .int (nI part)), (4, .int (nI many)), (5, .int (nI i))] [] w = some (some (.int (nI f)), w.set cp (.inr (0, zs2)))) ∧
      (∀ e, itemsN B part k p = .inr e → ex_go X 27 71 [(0, .ref b), (1, .int (nI (limN B))), (2, .int (nI p)), (3, .int (nI part)), (4, .int (nI many)), (5, .int (nI i))] [] w = ex_go X 27 146 [(0, .ref b), (1, .int (nI (limN B))), (2, .int (nI e)), (3, .int (nI part))] [] (w.set cp (.inr (0, zs2))) ∧ (part ≠ 2 → zs2 = zs) ∧ (part = 2 → (∀ j, j < i → zs2.getD j 0 = zs.getD j 0) ∧ ∀ j, j < k → zs2.getD (i + j) 0 = nI (itN B 2 p j))) := by
  intro k
  induction k with
  | zero =>
    intro i p zs w K hz hl hi hp h5
    refine ⟨zs, hl, fun f hf => (by cases hf), fun e he => ?_⟩
    cases he
    have e1 : nI many ≤ nI i := nI_le (by omega) (by omega)
    refine ⟨?_, fun _ => rfl, fun _ => ⟨fun _ _ => rfl, fun j hj => by omega⟩⟩
    rw [s27_71]
    simp only [s27_73, s27_75, if_pos e1, set_id hz]
  | succ k ih =>
    intro i p zs w K hz hl hi hp h5
    have hb := K.1
    have R := K.2.1
    have H := K.2.2.1
    have h1 := K.2.2.2.1
    have hB := K.2.2.2.2
    have hlim := limN_le B
    have e1 : ¬ nI many ≤ nI i := nI_ge (by omega) (by omega)
    have hone := b_one (X := X) (many := many) (i := i) (p := p) K hz hl hcp hne hk (by omega) (by intro z; have := h5 z; omega) (by omega)
    have rc := ex_rc_o R.1 R.2.2.2.2.1 (by decide)
    have c0 := r_cellB (X := X) (i := p) R H (by omega)
    have ck := b_isKind (X := X) (w := w) (x := B.getD p 0) (by have := hB p; omega)
    have z1 : ¬ (1 : Int32) = 0 := by decide
    -- the head, up to the place behind the look at the kind
    have head : (¬ (part = 0 ∧ p < limN B ∧ ¬ (1 ≤ B.getD p 0 ∧ B.getD p 0 ≤ 4)) → ex_go X 27 71 [(0, .ref b), (1, .int (nI (limN B))), (2, .int (nI p)), (3, .int (nI part)), (4, .int (nI many)), (5, .int (nI i))] [] w = ex_go X 27 103 [(0, .ref b), (1, .int (nI (limN B))), (2, .int (nI p)), (3, .int (nI part)), (4, .int (nI many)), (5, .int (nI i))] [] w) ∧
        ((part = 0 ∧ p < limN B ∧ ¬ (1 ≤ B.getD p 0 ∧ B.getD p 0 ≤ 4)) → ex_go X 27 71 [(0, .ref b), (1, .int (nI (limN B))), (2, .int (nI p)), (3, .int (nI part)), (4, .int (nI many)), (5, .int (nI i))] [] w = some (some (.int (nI p)), w)) := by
      rw [s27_71]
      simp only [s27_73, s27_75, if_neg e1, s27_78, s27_79]
      by_cases c : part = 0
      · have e2 : ¬ ¬ nI part = 0 := fun z => z (by rw [c]; rfl)
        simp only [if_neg e2, s27_82, s27_83, s27_84]
        by_cases c1 : p < limN B
        · have e3 : ¬ nI (limN B) ≤ nI p := nI_ge c1 (by omega)
          simp only [if_neg e3, s27_87, s27_88 h1, ex_gf_i hb, List.getElem?_cons_zero, Option.bind_some, s27_91, s27_92 rc, c0, Option.toList_some, List.cons_append, List.nil_append, s27_95, ck, s27_98]
          by_cases c3 : 1 ≤ B.getD p 0 ∧ B.getD p 0 ≤ 4
          · rw [if_pos c3]
            exact ⟨fun _ => if_pos z1, fun z => absurd c3 z.2.2⟩
          · rw [if_neg c3]
            refine ⟨fun z => absurd ⟨c, c1, c3⟩ z, fun _ => ?_⟩
            simp only [not_true_eq_false, if_false, s27_101, s27_102]
        · have e3 : nI (limN B) ≤ nI p := nI_le (by omega) (by omega)
          exact ⟨fun _ => if_pos e3, fun z => absurd z.2.1 c1⟩
      · have e2 : ¬ nI part = 0 := fun z => c ((nI_eq (b := 0) (by omega) (by decide)).mp z)
        exact ⟨fun _ => if_pos e2, fun z => absurd z.1 c⟩
    rw [itemsN]
    unfold stepN
    by_cases c : part = 0 ∧ p < limN B ∧ ¬ (1 ≤ B.getD p 0 ∧ B.getD p 0 ≤ 4)
    · rw [if_pos c]
      refine ⟨zs, hl, fun f hf => ?_, fun e he => by cases he⟩
      cases hf
      rw [head.2 c, set_id hz]
    · rw [if_neg c]
      by_cases c1 : iEnd B part p ≤ limN B
      · rw [if_pos c1]
        dsimp only
        have hg := iEnd_gt B part p
        have K1 := isBlk_set (c := .inr (0, if part = 2 then zs.set i (nI p) else zs)) K hne.1 hne.2.1 hne.2.2
        have hl1 : (if part = 2 then zs.set i (nI p) else zs).length = 40 := by
          split
          · rw [List.length_set]; exact hl
          · exact hl
        have h51 : part = 2 → 3 * (i + 1) + 5 ≤ iEnd B part p := by
          intro z
          have := h5 z
          subst z
          show 3 * (i + 1) + 5 ≤ p + 3 + B.getD (p + 2) 0
          omega
        obtain ⟨zs2, g1, g2, g3⟩ := ih (i + 1) (iEnd B part p) _ _ K1 (ex_set_s hz) hl1 (by omega) c1 h51
        refine ⟨zs2, g1, fun f hf => ?_, fun e he => ?_⟩
        · rw [head.1 c, hone, if_pos c1, g2 f hf, List.set_set]
        · obtain ⟨k1, k2, k3⟩ := g3 e he
          refine ⟨by rw [head.1 c, hone, if_pos c1, k1, List.set_set], fun z => ?_, fun z => ?_⟩
          · rw [k2 z, if_neg z]
          · obtain ⟨m1, m2⟩ := k3 z
            rw [if_pos z] at m1
            have hi40 : i < zs.length := by have := h5 z; omega
            refine ⟨fun j hj => ?_, fun j hj => ?_⟩
            · rw [m1 j (by omega), List.getD_eq_getElem?_getD, List.getElem?_set_ne (by omega), ← List.getD_eq_getElem?_getD]
            · cases j with
              | zero =>
                show zs2.getD i 0 = nI p
                rw [m1 i (by omega), List.getD_eq_getElem?_getD, List.getElem?_set_self hi40]
                rfl
              | succ j =>
                have := m2 j (by omega)
                rw [show i + (j + 1) = i + 1 + j by omega, this, z]
                rfl
      · rw [if_neg c1]
        refine ⟨if part = 2 then zs.set i (nI p) else zs, ?_, fun f hf => ?_, fun e he => by cases he⟩
        · split
          · rw [List.length_set]; exact hl
          · exact hl
        · cases hf
          rw [head.1 c, hone, if_neg c1]
end SCAN
