/-! the whole scan -/
def partsN (B : List Nat) : Nat → Nat → Nat ⊕ Nat
  | 0, p => .inr p
  | r + 1, p => if p < limN B then (match itemsN B (3 - r) (B.getD p 0) (p + 1) with
    | .inl f => .inl f
    | .inr e => partsN B r e) else .inl (limN B)
/-- where the bytes are faulty -/
def scanN (B : List Nat) : Option Nat := if 0 < limN B ∧ ¬ B.getD 0 0 = 77 then some 0 else match partsN B 4 2 with
  | .inl f => some f
  | .inr e => if e < B.length then some e else none
/-- the place of a part's number -/
def cP (B : List Nat) : Nat → Nat
  | 0 => 2
  | k + 1 => itN B k (cP B k + 1) (B.getD (cP B k) 0)
def parsed (B : List Nat) (ys zs : List Int32) : Prop := (∀ k, k < 4 → ys.getD k 0 = nI (cP B k)) ∧ ∀ i, i < B.getD (cP B 2) 0 → zs.getD i 0 = nI (itN B 2 (cP B 2 + 1) i)
section SCAN2
variable {X : Option (List Int32)} {w : ex_W} {b q a cc cp part p : Nat} {xs ys zs : List Int32} {B : List Nat}
theorem b_part (K : isBlk w b q a cc cp xs B) (hy : w[cc]? = some (.inr (0, ys))) (hyl : ys.length = 4) (hz : w[cp]? = some (.inr (0, zs))) (hzl : zs.length = 40) (hcp : cp < 1000) (hcc : cc < 1000) (hne : cp ≠ b ∧ cp ≠ q ∧ cp ≠ a) (hnc : cc ≠ b ∧ cc ≠ q ∧ cc ≠ a) (hcn : cc ≠ cp) (hk : part ≤ 3) (hp : part + 2 ≤ p) (hp2 : p ≤ 120) :
    (¬ p < limN B → ex_go X 27 36 [(0, .ref b), (1, .int (nI (limN B))), (2, .int (nI p)), (3, .int (nI part))] [] w = some (some (.int (nI (limN B))), w)) ∧
    (p < limN B → ∃ zs2 : List Int32, zs2.length = 40 ∧
      (∀ f, itemsN B part (B.getD p 0) (p + 1) = .inl f → ex_go X 27 36 [(0, .ref b), (1, .int (nI (limN B))), (2, .int (nI p)), (3, .int (nI part))] [] w = some (some (.int (nI f)), (w.set cc (.inr (0, ys.set part (nI p)))).set cp (.inr (0, zs2)))) ∧
      (∀ e, itemsN B part (B.getD p 0) (p + 1) = .inr e → ex_go X 27 36 [(0, .ref b), (1, .int (nI (limN B))), (2, .int (nI p)), (3, .int (nI part))] [] w = ex_go X 27 36 [(0, .ref b), (1, .int (nI (limN B))), (2, .int (nI e)), (3, .int (nI (part + 1)))] [] ((w.set cc (.inr (0, ys.set part (nI p)))).set cp (.inr (0, zs2))) ∧ (part ≠ 2 → zs2 = zs) ∧ (part = 2 → ∀ j, j < B.getD p 0 → zs2.getD j 0 = nI (itN B 2 (p + 1) j)))) := by
  have hb := K.1
  have h1 := K.2.2.2.1
  have hlim := limN_le B
  have e1 : ¬ (4 : Int32) ≤ nI part := by rw [L4, nI_leI (by omega) (by omega)]; omega
  constructor
  · intro c
    have e2 : ¬ nI p < nI (limN B) := nI_nlt (by omega) (by omega)
    rw [s27_36]
    simp only [s27_37, s27_38, if_neg e1, s27_41, s27_42, s27_43, if_neg e2, s27_46, s27_47]
  · intro c
    have e2 : nI p < nI (limN B) := nI_lt c (by omega)
    have K1 := isBlk_set (c := .inr (0, ys.set part (nI p))) K hnc.1 hnc.2.1 hnc.2.2
    have hz1 := ex_set_o (c := .inr (0, ys.set part (nI p))) hcn hz
    have R1 := K1.2.1
    have rc := ex_rc_o R1.1 R1.2.2.2.2.1 (by decide)
    have c0 := r_cellB (X := X) (i := p) R1 K1.2.2.1 (by omega)
    have hm := K.2.2.2.2 p
    obtain ⟨zs2, g1, g2, g3⟩ := b_items (X := X) (B := B) (xs := xs) (cc := cc) hcp hne hk hm (B.getD p 0) 0 (p + 1) zs _ K1 hz1 hzl (by omega) (by omega) (by intro z; omega)
    have head : ex_go X 27 36 [(0, .ref b), (1, .int (nI (limN B))), (2, .int (nI p)), (3, .int (nI part))] [] w = ex_go X 27 71 [(0, .ref b), (1, .int (nI (limN B))), (2, .int (nI (p + 1))), (3, .int (nI part)), (4, .int (nI (B.getD p 0))), (5, .int (nI 0))] [] (w.set cc (.inr (0, ys.set part (nI p)))) := by
      rw [s27_36]
      simp only [s27_37, s27_38, if_neg e1, s27_41, s27_42, s27_43, if_pos e2, s27_48, s27_49 h1, ex_gf_i hb, List.getElem?_cons_zero, List.getElem?_cons_succ, Option.bind_some, s27_52, s27_53, s27_54 hcc, ex_as_i hy (show part < ys.length by omega) (by omega), s27_55, s27_56 h1, ex_gf_i K1.1, s27_59, s27_60 rc, c0, Option.toList_some, List.cons_append, List.nil_append, s27_63, s27_65, nI_1, s27_68, s27_69, L0]
    refine ⟨zs2, g1, fun f hf => by rw [head, g2 f hf], fun e he => ?_⟩
    obtain ⟨k1, k2, k3⟩ := g3 e he
    refine ⟨?_, k2, fun z => ?_⟩
    · rw [head, k1]
      simp only [s27_146, s27_149, nI_1]
    · have := (k3 z).2
      intro j hj
      have t := this j hj
      rw [Nat.zero_add] at t
      exact t
theorem set_get {ys : List Int32} {i j : Nat} {v : Int32} (hi : i < ys.length) : (ys.set i v).getD j 0 = if i = j then v else ys.getD j 0 := by
  rw [List.getD_eq_getElem?_getD, List.getElem?_set]
  split
  next h => subst h; first | rfl | (rw [if_pos hi]; rfl)
  next h => rw [List.getD_eq_getElem?_getD]
theorem b_scan (K : isBlk w b q a cc cp xs B) (hy : w[cc]? = some (.inr (0, ys))) (hyl : ys.length = 4) (hz : w[cp]? = some (.inr (0, zs))) (hzl : zs.length = 40) (hcp : cp < 1000) (hcc : cc < 1000) (hne : cp ≠ b ∧ cp ≠ q ∧ cp ≠ a) (hnc : cc ≠ b ∧ cc ≠ q ∧ cc ≠ a) (hcn : cc ≠ cp) :
    ∃ ys2 zs2 : List Int32, ys2.length = 4 ∧ zs2.length = 40 ∧ (∀ f, scanN B = some f → ex_call X 27 [.ref b] w = some (some (.int (nI f)), (w.set cc (.inr (0, ys2))).set cp (.inr (0, zs2)))) ∧ (scanN B = none → ex_call X 27 [.ref b] w = some (some (.int (-1)), (w.set cc (.inr (0, ys2))).set cp (.inr (0, zs2))) ∧ parsed B ys2 zs2 ∧ B.length ≤ 120) := by
  have hb := K.1
  have R := K.2.1
  have h1 := K.2.2.2.1
  have hlim := limN_le B
  have hBl : B.length < 2 ^ 20 := by have := R.2.2.1; have := R.2.2.2.1; omega
  have rc := ex_rc_o R.1 R.2.2.2.2.1 (by decide)
  have c0 := r_cellB (X := X) (i := 0) R K.2.2.1 (by omega)
  have hB0 := K.2.2.2.2 0
  have self : (w.set cc (.inr (0, ys))).set cp (.inr (0, zs)) = w := by rw [set_id hy, set_id hz]
  have hmin : (if (120 : Int32) < nI B.length then (120 : Int32) else nI B.length) = nI (limN B) := by
    unfold limN
    by_cases c : 120 < B.length
    · have e : (120 : Int32) < nI B.length := nI_lt (a := 120) c (by omega)
      rw [if_pos e, Nat.min_eq_right (by omega)]
      rfl
    · have e : ¬ (120 : Int32) < nI B.length := nI_nlt (a := 120) (b := B.length) (by omega) (by decide)
      rw [if_neg e, Nat.min_eq_left (by omega)]
  have start : ex_call X 27 [.ref b] w = ex_go X 27 13 [(0, .ref b), (1, .int (nI (limN B)))] [] w := by
    show ex_go X 27 0 [(0, .ref b)] [] w = _
    simp only [s27_0, s27_1 h1, ex_gf_i hb, List.getElem?_cons_zero, List.getElem?_cons_succ, Option.bind_some, s27_4 R.2.2.2.2.1, ex_gf_i R.1, s27_7, s27_9, s27_12, hmin]
  by_cases c1 : 0 < limN B ∧ ¬ B.getD 0 0 = 77
  · refine ⟨ys, zs, hyl, hzl, fun f hf => ?_, fun hf => ?_⟩
    · unfold scanN at hf
      rw [if_pos c1] at hf
      cases hf
      have e1 : ¬ nI (limN B) ≤ nI 0 := by rw [nI_leI (by omega) (by decide)]; omega
      have e2 : ¬ nI (B.getD 0 0) = 77 := by rw [L77, nI_eq (by omega) (by decide)]; exact c1.2
      rw [start, self]
      simp only [s27_13, s27_14, if_neg e1, s27_17, s27_18 h1, ex_gf_i hb, List.getElem?_cons_zero, Option.bind_some, s27_21, L0, s27_22 rc, c0, Option.toList_some, List.cons_append, List.nil_append, s27_25, s27_27, if_neg e2, s27_30, s27_31]
    · unfold scanN at hf
      rw [if_pos c1] at hf
      cases hf
  · have go36 : ex_go X 27 13 [(0, .ref b), (1, .int (nI (limN B)))] [] w = ex_go X 27 36 [(0, .ref b), (1, .int (nI (limN B))), (2, .int (nI 2)), (3, .int (nI 0))] [] w := by
      have fin : ex_go X 27 32 [(0, .ref b), (1, .int (nI (limN B)))] [] w = ex_go X 27 36 [(0, .ref b), (1, .int (nI (limN B))), (2, .int (nI 2)), (3, .int (nI 0))] [] w := by
        simp only [s27_32, s27_33, s27_34, s27_35, L0, L2]
      by_cases c : 0 < limN B
      · have e1 : ¬ nI (limN B) ≤ nI 0 := by rw [nI_leI (by omega) (by decide)]; omega
        have e2 : nI (B.getD 0 0) = 77 := by
          rw [L77, nI_eq (by omega) (by decide)]
          exact Classical.not_not.mp fun z => c1 ⟨c, z⟩
        simp only [s27_13, s27_14, if_neg e1, s27_17, s27_18 h1, ex_gf_i hb, List.getElem?_cons_zero, Option.bind_some, s27_21, L0, s27_22 rc, c0, Option.toList_some, List.cons_append, List.nil_append, s27_25, s27_27, if_pos e2]
        exact fin
      · have e1 : nI (limN B) ≤ 0 := by rw [L0, nI_leI (by omega) (by decide)]; omega
        simp only [s27_13, s27_14, if_pos e1]
        exact fin
    rw [start, go36]
    have hs : scanN B = match partsN B 4 2 with
        | .inl f => some f
        | .inr e => if e < B.length then some e else none := by
      unfold scanN
      rw [if_neg c1]
    -- part 0
    obtain ⟨p0a, p0b⟩ := b_part (X := X) (part := 0) (p := 2) K hy hyl hz hzl hcp hcc hne hnc hcn (by omega) (by omega) (by omega)
    by_cases d0 : 2 < limN B
    case neg =>
      have hv : partsN B 4 2 = .inl (limN B) := by rw [partsN, if_neg d0]
      rw [hv] at hs
      refine ⟨ys, zs, hyl, hzl, fun f hf => ?_, fun hf => by rw [hs] at hf; cases hf⟩
      rw [hs] at hf
      cases hf
      rw [p0a d0, self]
    obtain ⟨z0, l0, f0, g0⟩ := p0b d0
    cases i0 : itemsN B 0 (B.getD 2 0) 3 with
    | inl f =>
      have hv : partsN B 4 2 = .inl f := by rw [partsN, if_pos d0, show (3 - 3 : Nat) = 0 from rfl, i0]
      rw [hv] at hs
      refine ⟨ys.set 0 (nI 2), z0, by rw [List.length_set]; exact hyl, l0, fun f2 hf => ?_, fun hf => by rw [hs] at hf; cases hf⟩
      rw [hs] at hf
      cases hf
      exact f0 f i0
    | inr e0 =>
      obtain ⟨k0, a0, -⟩ := g0 e0 i0
      have a0 := a0 (by decide)
      subst a0
      obtain ⟨t0, t0b, t0c⟩ := itemsN_inr _ _ _ i0
      have t0b := t0b (by omega)
      have u0 : e0 = cP B 1 := t0
      have hy0 : (w.set cc (.inr (0, ys.set 0 (nI 2))))[cc]? = some (.inr (0, ys.set 0 (nI 2))) := ex_set_s hy
      have w0e : (w.set cc (.inr (0, ys.set 0 (nI 2)))).set cp (.inr (0, z0)) = w.set cc (.inr (0, ys.set 0 (nI 2))) := set_id (ex_set_o hcn hz)
      rw [w0e] at k0
      have K0 := isBlk_set (c := .inr (0, ys.set 0 (nI 2))) K hnc.1 hnc.2.1 hnc.2.2
      obtain ⟨p1a, p1b⟩ := b_part (X := X) (part := 1) (p := e0) K0 hy0 (by rw [List.length_set]; exact hyl) (ex_set_o hcn hz) hzl hcp hcc hne hnc hcn (by omega) (by omega) (by omega)
      rw [k0]
      by_cases d1 : e0 < limN B
      case neg =>
        have hv : partsN B 4 2 = .inl (limN B) := by rw [partsN, if_pos d0, show (3 - 3 : Nat) = 0 from rfl, i0]; dsimp only; rw [partsN, if_neg d1]
        rw [hv] at hs
        refine ⟨ys.set 0 (nI 2), z0, by rw [List.length_set]; exact hyl, hzl, fun f hf => ?_, fun hf => by rw [hs] at hf; cases hf⟩
        rw [hs] at hf
        cases hf
        rw [p1a d1, w0e]
      obtain ⟨z1, l1, f1, g1⟩ := p1b d1
      have ss : ∀ c : ex_C, (w.set cc (.inr (0, ys.set 0 (nI 2)))).set cc c = w.set cc c := fun c => List.set_set _
      rw [ss] at f1 g1
      cases i1 : itemsN B 1 (B.getD e0 0) (e0 + 1) with
      | inl f =>
        have hv : partsN B 4 2 = .inl f := by rw [partsN, if_pos d0, show (3 - 3 : Nat) = 0 from rfl, i0]; dsimp only; rw [partsN, if_pos d1, show (3 - 2 : Nat) = 1 from rfl, i1]
        rw [hv] at hs
        refine ⟨(ys.set 0 (nI 2)).set 1 (nI e0), z1, by rw [List.length_set, List.length_set]; exact hyl, l1, fun f2 hf => ?_, fun hf => by rw [hs] at hf; cases hf⟩
        rw [hs] at hf
        cases hf
        exact f1 f i1
      | inr e1 =>
        obtain ⟨k1, a1, -⟩ := g1 e1 i1
        have a1 := a1 (by decide)
        subst a1
        obtain ⟨t1, t1b, t1c⟩ := itemsN_inr _ _ _ i1
        have t1b := t1b (by omega)
        have u1 : e1 = cP B 2 := by rw [t1, u0]; rfl
        have w1e : (w.set cc (.inr (0, (ys.set 0 (nI 2)).set 1 (nI e0)))).set cp (.inr (0, z1)) = w.set cc (.inr (0, (ys.set 0 (nI 2)).set 1 (nI e0))) := set_id (ex_set_o hcn hz)
        rw [w1e] at k1
        have K1 := isBlk_set (c := .inr (0, (ys.set 0 (nI 2)).set 1 (nI e0))) K hnc.1 hnc.2.1 hnc.2.2
        obtain ⟨p2a, p2b⟩ := b_part (X := X) (part := 2) (p := e1) K1 (ex_set_s hy) (by rw [List.length_set, List.length_set]; exact hyl) (ex_set_o hcn hz) hzl hcp hcc hne hnc hcn (by omega) (by omega) (by omega)
        rw [k1]
        by_cases d2 : e1 < limN B
        case neg =>
          have hv : partsN B 4 2 = .inl (limN B) := by rw [partsN, if_pos d0, show (3 - 3 : Nat) = 0 from rfl, i0]; dsimp only; rw [partsN, if_pos d1, show (3 - 2 : Nat) = 1 from rfl, i1]; dsimp only; rw [partsN, if_neg d2]
          rw [hv] at hs
          refine ⟨(ys.set 0 (nI 2)).set 1 (nI e0), z1, by rw [List.length_set, List.length_set]; exact hyl, hzl, fun f hf => ?_, fun hf => by rw [hs] at hf; cases hf⟩
          rw [hs] at hf
          cases hf
          rw [p2a d2, w1e]
        obtain ⟨z2, l2, f2, g2⟩ := p2b d2
        have ss1 : ∀ c : ex_C, (w.set cc (.inr (0, (ys.set 0 (nI 2)).set 1 (nI e0)))).set cc c = w.set cc c := fun c => List.set_set _
        rw [ss1] at f2 g2
        cases i2 : itemsN B 2 (B.getD e1 0) (e1 + 1) with
        | inl f =>
          have hv : partsN B 4 2 = .inl f := by rw [partsN, if_pos d0, show (3 - 3 : Nat) = 0 from rfl, i0]; dsimp only; rw [partsN, if_pos d1, show (3 - 2 : Nat) = 1 from rfl, i1]; dsimp only; rw [partsN, if_pos d2, show (3 - 1 : Nat) = 2 from rfl, i2]
          rw [hv] at hs
          refine ⟨((ys.set 0 (nI 2)).set 1 (nI e0)).set 2 (nI e1), z2, by rw [List.length_set, List.length_set, List.length_set]; exact hyl, l2, fun f3 hf => ?_, fun hf => by rw [hs] at hf; cases hf⟩
          rw [hs] at hf
          cases hf
          exact f2 f i2
        | inr e2 =>
          obtain ⟨k2, -, b2⟩ := g2 e2 i2
          have b2 := b2 rfl
          obtain ⟨t2, t2b, t2c⟩ := itemsN_inr _ _ _ i2
          have t2b := t2b (by omega)
          have u2 : e2 = cP B 3 := by rw [t2, u1]; rfl
          have K2 := isBlk_set (c := .inr (0, z2)) (isBlk_set (c := .inr (0, ((ys.set 0 (nI 2)).set 1 (nI e0)).set 2 (nI e1))) K hnc.1 hnc.2.1 hnc.2.2) hne.1 hne.2.1 hne.2.2
          obtain ⟨p3a, p3b⟩ := b_part (X := X) (part := 3) (p := e2) K2 (ex_set_o (Ne.symm hcn) (ex_set_s hy)) (by rw [List.length_set, List.length_set, List.length_set]; exact hyl) (ex_set_s (ex_set_o hcn hz)) l2 hcp hcc hne hnc hcn (by omega) (by omega) (by omega)
          rw [k2]
          by_cases d3 : e2 < limN B
          case neg =>
            have hv : partsN B 4 2 = .inl (limN B) := by rw [partsN, if_pos d0, show (3 - 3 : Nat) = 0 from rfl, i0]; dsimp only; rw [partsN, if_pos d1, show (3 - 2 : Nat) = 1 from rfl, i1]; dsimp only; rw [partsN, if_pos d2, show (3 - 1 : Nat) = 2 from rfl, i2]; dsimp only; rw [partsN, if_neg d3]
            rw [hv] at hs
            refine ⟨((ys.set 0 (nI 2)).set 1 (nI e0)).set 2 (nI e1), z2, by rw [List.length_set, List.length_set, List.length_set]; exact hyl, l2, fun f hf => ?_, fun hf => by rw [hs] at hf; cases hf⟩
            rw [hs] at hf
            cases hf
            exact p3a d3
          obtain ⟨z3, l3, f3, g3⟩ := p3b d3
          have ss2 : ∀ (c : ex_C) (d : ex_C), (((w.set cc (.inr (0, ((ys.set 0 (nI 2)).set 1 (nI e0)).set 2 (nI e1)))).set cp (.inr (0, z2))).set cc c).set cp d = (w.set cc c).set cp d := fun c d => by
            have e : ((w.set cc (.inr (0, ((ys.set 0 (nI 2)).set 1 (nI e0)).set 2 (nI e1)))).set cp (.inr (0, z2))).set cc c = ((w.set cc (.inr (0, ((ys.set 0 (nI 2)).set 1 (nI e0)).set 2 (nI e1)))).set cc c).set cp (.inr (0, z2)) := List.set_comm _ _ (Ne.symm hcn)
            rw [e, List.set_set, List.set_set]
          rw [ss2] at f3 g3
          cases i3 : itemsN B 3 (B.getD e2 0) (e2 + 1) with
          | inl f =>
            have hv : partsN B 4 2 = .inl f := by rw [partsN, if_pos d0, show (3 - 3 : Nat) = 0 from rfl, i0]; dsimp only; rw [partsN, if_pos d1, show (3 - 2 : Nat) = 1 from rfl, i1]; dsimp only; rw [partsN, if_pos d2, show (3 - 1 : Nat) = 2 from rfl, i2]; dsimp only; rw [partsN, if_pos d3, show (3 - 0 : Nat) = 3 from rfl, i3]
            rw [hv] at hs
            refine ⟨(((ys.set 0 (nI 2)).set 1 (nI e0)).set 2 (nI e1)).set 3 (nI e2), z3, by rw [List.length_set, List.length_set, List.length_set, List.length_set]; exact hyl, l3, fun f4 hf => ?_, fun hf => by rw [hs] at hf; cases hf⟩
            rw [hs] at hf
            cases hf
            exact f3 f i3
          | inr e3 =>
            obtain ⟨k3, a3, -⟩ := g3 e3 i3
            have a3 := a3 (by decide)
            subst a3
            obtain ⟨t3, t3b, t3c⟩ := itemsN_inr _ _ _ i3
            have t3b := t3b (by omega)
            have hv : partsN B 4 2 = .inr e3 := by rw [partsN, if_pos d0, show (3 - 3 : Nat) = 0 from rfl, i0]; dsimp only; rw [partsN, if_pos d1, show (3 - 2 : Nat) = 1 from rfl, i1]; dsimp only; rw [partsN, if_pos d2, show (3 - 1 : Nat) = 2 from rfl, i2]; dsimp only; rw [partsN, if_pos d3, show (3 - 0 : Nat) = 3 from rfl, i3]; rfl
            rw [hv] at hs
            have hs : scanN B = if e3 < B.length then some e3 else none := hs
            have K3 := isBlk_set (c := .inr (0, z3)) (isBlk_set (c := .inr (0, (((ys.set 0 (nI 2)).set 1 (nI e0)).set 2 (nI e1)).set 3 (nI e2))) K hnc.1 hnc.2.1 hnc.2.2) hne.1 hne.2.1 hne.2.2
            have e4 : (4 : Int32) ≤ nI (3 + 1) := by decide
            have endg : ex_go X 27 36 [(0, .ref b), (1, .int (nI (limN B))), (2, .int (nI e3)), (3, .int (nI (3 + 1)))] [] ((w.set cc (.inr (0, (((ys.set 0 (nI 2)).set 1 (nI e0)).set 2 (nI e1)).set 3 (nI e2)))).set cp (.inr (0, z3))) = if nI B.length ≤ nI e3 then some (some (.int (-1)), (w.set cc (.inr (0, (((ys.set 0 (nI 2)).set 1 (nI e0)).set 2 (nI e1)).set 3 (nI e2)))).set cp (.inr (0, z3))) else some (some (.int (nI e3)), (w.set cc (.inr (0, (((ys.set 0 (nI 2)).set 1 (nI e0)).set 2 (nI e1)).set 3 (nI e2)))).set cp (.inr (0, z3))) := by
              rw [s27_36]
              simp only [s27_37, s27_38, if_pos e4, s27_152, s27_153, s27_154 h1, ex_gf_i K3.1, List.getElem?_cons_zero, List.getElem?_cons_succ, Option.bind_some, s27_157 R.2.2.2.2.1, ex_gf_i K3.2.1.1, s27_160, s27_163, s27_164, s27_167, s27_168]
            rw [k3, endg]
            refine ⟨(((ys.set 0 (nI 2)).set 1 (nI e0)).set 2 (nI e1)).set 3 (nI e2), z3, by rw [List.length_set, List.length_set, List.length_set, List.length_set]; exact hyl, l3, fun f hf => ?_, fun hf => ?_⟩
            · rw [hs] at hf
              by_cases d4 : e3 < B.length
              · rw [if_pos d4] at hf
                cases hf
                rw [if_neg (nI_ge d4 (by omega))]
              · rw [if_neg d4] at hf
                cases hf
            · rw [hs] at hf
              by_cases d4 : e3 < B.length
              · rw [if_pos d4] at hf
                cases hf
              · rw [if_pos (nI_le (by omega) (by omega))]
                refine ⟨rfl, ⟨fun k hk => ?_, ?_⟩, by omega⟩
                · rw [set_get (by rw [List.length_set, List.length_set, List.length_set]; omega), set_get (by rw [List.length_set, List.length_set]; omega), set_get (by rw [List.length_set]; omega), set_get (by omega)]
                  match k, hk with
                  | 0, _ => rfl
                  | 1, _ => rw [← u0]; rfl
                  | 2, _ => rw [← u1]; rfl
                  | 3, _ => rw [← u2]; rfl
                · rw [← u1]
                  exact b2
end SCAN2
