/-! the other object's findLines -/
section LINES3
variable {X : Option (List Int32)} {w0 w : ex_W} {m : Nat → Int32} {v : Int64} {t : List Nat} {ds bg ln bs : List Int32} {B : List Nat} {f n : Nat} {L : List Nat}
theorem y_inLoop (Y : isBm w0 bs B) (hL : okL B f n L) (hn : n ≤ 120) (hf : f + n ≤ B.length) (hb : bgS f n L bg) {i : Nat} (hp : f + i ∈ L) : ∀ (r k : Nat) (ln : List Int32) (w : ex_W), k + r = distN B (f + i) → isTx w0 w m v t ds bg ln → lnP f n L (hitI B f L i k) ln → ∃ (ln2 : List Int32) (w2 : ex_W), ex_go X 120 54 [(0, .ref 32), (1, .int (nI f)), (2, .int (nI n)), (3, .int (nI (f + i))), (4, .int (nI (distN B (f + i)))), (5, .int (nI k))] [] w = ex_go X 120 104 [(0, .ref 32), (1, .int (nI f)), (2, .int (nI n)), (3, .int (nI (f + i)))] [] w2 ∧ isTx w0 w2 m v t ds bg ln2 ∧ lnP f n L (hitI B f L i (distN B (f + i))) ln2 := by
  have hd := distN_le Y.2.2.2 (f + i)
  obtain ⟨l1, l2, l3, l4⟩ := hL _ hp
  have hbl : B.length ≤ 130 := by have := Y.2.2.1.1; have := Y.2.1; omega
  intro r
  induction r with
  | zero =>
    intro k ln w hk S Mk
    have e : nI (distN B (f + i)) ≤ nI k := nI_le (by omega) (by omega)
    have hk : k = distN B (f + i) := by omega
    refine ⟨ln, w, ?_, S, by rw [hk] at Mk; exact Mk⟩
    simp (disch := first | assumption | decide) only [s120_54, s120_56, s120_58, if_pos e]
  | succ r ih =>
    intro k ln w hk S Mk
    have e : ¬ nI (distN B (f + i)) ≤ nI k := nI_ge (by omega) (by omega)
    have hll := S.2.2.2.2.2.2.2.2.2
    have rc := tx_rc S
    have h0 := y_blk (tx_B S Y) (p := f + i) (by omega)
    have fo := y_firstOf (X := X) (w := w) (p := f + i) (dist_op (B := B) (p := f + i) (by omega))
    have mu : (2 : Int32) * nI k = nI (2 * k) := pk_mul 2 k
    have nx : ∀ w : ex_W, ex_go X 120 98 [(0, .ref 32), (1, .int (nI f)), (2, .int (nI n)), (3, .int (nI (f + i))), (4, .int (nI (distN B (f + i)))), (5, .int (nI k))] [] w = ex_go X 120 54 [(0, .ref 32), (1, .int (nI f)), (2, .int (nI n)), (3, .int (nI (f + i))), (4, .int (nI (distN B (f + i)))), (5, .int (nI (k + 1)))] [] w := by
      intro w
      simp (disch := first | assumption | decide) only [s120_98, s120_101, nI_1]
    rcases y_target (X := X) (q := k) S Y hL hn hf hb hp (by omega) with ⟨z, hz, hz2, c, ca⟩ | ⟨c, ca⟩
    · have c0 : ¬ nI z < 0 := nI_pos (by omega)
      obtain ⟨as, S1⟩ := tx_ls (i := z) (x := 1) S (by omega)
      obtain ⟨ln2, w2, a1, a2, a3⟩ := ih (k + 1) _ _ (by omega) S1 (by
        intro j hj
        rw [set_get (by omega)]
        by_cases qz : z = j
        · subst qz
          rw [if_pos rfl]
          exact ⟨fun _ _ => rfl, fun h => absurd ⟨hz2, hitI_step.mpr (Or.inr c)⟩ h⟩
        · rw [if_neg qz]
          refine ⟨fun h1 h2 => ?_, fun h => (Mk j hj).2 (fun y => h ⟨y.1, hitI_step.mpr (Or.inl y.2)⟩)⟩
          rw [hitI_step] at h2
          rcases h2 with h2 | h2
          · exact (Mk j hj).1 h1 h2
          · rw [c] at h2
            exact absurd ((nI_eq (by omega) (by omega)).mp h2) qz)
      refine ⟨ln2, w2, ?_, a2, a3⟩
      rw [← a1, ← nx, s120_54]
      simp (disch := first | assumption | decide) only [s120_56, s120_58, s120_61, s120_62, s120_63, s120_64, s120_65, s120_66, s120_69, s120_70, s120_71, s120_72, s120_75, s120_76, s120_78, s120_79, s120_80, s120_83, s120_85, s120_87, s120_90, s120_91, s120_94, s120_96, s120_97, if_neg e, tx_g0 S, List.getElem?_cons_zero, List.getElem?_cons_succ, Option.bind_some, Option.toList_some, Option.toList_none, List.cons_append, List.nil_append, h0, fo, mu, nI_add, ca, if_neg c0, tx_g12 S, as]
    · have c0 : (-1 : Int32) < 0 := by decide
      obtain ⟨ln2, w2, a1, a2, a3⟩ := ih (k + 1) ln w (by omega) S (by
        intro j hj
        refine ⟨fun h1 h2 => ?_, fun h => (Mk j hj).2 (fun y => h ⟨y.1, hitI_step.mpr (Or.inl y.2)⟩)⟩
        rw [hitI_step] at h2
        rcases h2 with h2 | h2
        · exact (Mk j hj).1 h1 h2
        · exact absurd h2 (c j hj h1))
      refine ⟨ln2, w2, ?_, a2, a3⟩
      rw [← a1, ← nx, s120_54]
      simp (disch := first | assumption | decide) only [s120_56, s120_58, s120_61, s120_62, s120_63, s120_64, s120_65, s120_66, s120_69, s120_70, s120_71, s120_72, s120_75, s120_76, s120_78, s120_79, s120_80, s120_83, s120_85, s120_87, s120_90, s120_91, s120_94, s120_96, s120_97, if_neg e, tx_g0 S, List.getElem?_cons_zero, List.getElem?_cons_succ, Option.bind_some, Option.toList_some, Option.toList_none, List.cons_append, List.nil_append, h0, fo, mu, nI_add, ca, if_pos c0]
theorem y_outerLoop (Y : isBm w0 bs B) (hL : okL B f n L) (hn : n ≤ 120) (hf : f + n ≤ B.length) (hb : bgS f n L bg) : ∀ (r i : Nat) (ln : List Int32) (w : ex_W), i + r = n → isTx w0 w m v t ds bg ln → lnP f n L (hitI B f L i 0) ln → ∃ (ln2 : List Int32) (w2 : ex_W), ex_go X 120 22 [(0, .ref 32), (1, .int (nI f)), (2, .int (nI n)), (3, .int (nI (f + i)))] [] w = ex_go X 120 110 [(0, .ref 32), (2, .int (nI n))] [] w2 ∧ isTx w0 w2 m v t ds bg ln2 ∧ lnP f n L (hitI B f L n 0) ln2 := by
  have hbl : B.length ≤ 130 := by have := Y.2.2.1.1; have := Y.2.1; omega
  intro r
  induction r with
  | zero =>
    intro i ln w hi S Mk
    have e : nI (f + n) ≤ nI (f + i) := nI_le (by omega) (by omega)
    have hi : i = n := by omega
    refine ⟨ln, w, ?_, S, by rw [hi] at Mk; exact Mk⟩
    simp (disch := first | assumption | decide) only [s120_22, s120_23, s120_24, s120_25, s120_26, nI_add, if_pos e]
  | succ r ih =>
    intro i ln w hi S Mk
    have e : ¬ nI (f + n) ≤ nI (f + i) := nI_ge (by omega) (by omega)
    have rc := tx_rc S
    have sb : nI (f + i) - nI f = nI i := by rw [pk_sub (by omega), show f + i - f = i by omega]
    have bl := tx_bl (i := i) S (by omega)
    rw [hb i (by omega)] at bl
    by_cases hp : f + i ∈ L
    · obtain ⟨l1, l2, l3, l4⟩ := hL _ hp
      have n1 : ¬ (1 : Int32) = 0 := by decide
      rw [if_pos hp] at bl
      have yd := y_distances (X := X) (p := f + i) (tx_B S Y) (by omega) (fun h => by
        have : headN (B.getD (f + i) 0) = 2 := by rw [h]; rfl
        omega)
      obtain ⟨ln2, w2, a1, a2, a3⟩ := y_inLoop (X := X) Y hL hn hf hb hp (distN B (f + i)) 0 ln w (by omega) S Mk
      obtain ⟨ln3, w3, b1, b2, b3⟩ := ih (i + 1) ln2 w2 (by omega) a2 (by
        intro j hj
        have h := a3 j hj
        rw [hitI_next hp] at h
        exact h)
      refine ⟨ln3, w3, ?_, b2, b3⟩
      have a1 : ex_go X 120 54 [(0, .ref 32), (1, .int (nI f)), (2, .int (nI n)), (3, .int (nI (f + i))), (4, .int (nI (distN B (f + i)))), (5, .int 0)] [] w = _ := a1
      rw [s120_22]
      simp (disch := first | assumption | decide) only [s120_23, s120_24, s120_25, s120_26, s120_29, s120_30, s120_33, s120_34, s120_35, s120_36, s120_37, s120_40, s120_41, s120_42, s120_45, s120_48, s120_49, s120_51, s120_52, nI_add, if_neg e, tx_g11 S, List.getElem?_cons_zero, List.getElem?_cons_succ, Option.bind_some, Option.toList_some, Option.toList_none, List.cons_append, List.nil_append, sb, bl, if_neg n1, yd]
      rw [a1]
      simp (disch := first | assumption | decide) only [s120_104, s120_107, nI_1]
      exact b1
    · rw [if_neg hp] at bl
      have e2 : (0 : Int32) ≤ 0 := by decide
      obtain ⟨ln3, w3, b1, b2, b3⟩ := ih (i + 1) ln w (by omega) S (by
        intro j hj
        have h := Mk j hj
        rw [hitI_skip hp] at h
        exact h)
      refine ⟨ln3, w3, ?_, b2, b3⟩
      rw [s120_22]
      simp (disch := first | assumption | decide) only [s120_23, s120_24, s120_25, s120_26, s120_29, s120_30, s120_33, s120_34, s120_35, s120_36, s120_37, s120_40, s120_41, s120_42, s120_45, s120_48, s120_49, s120_51, s120_52, s120_54, s120_56, s120_58, s120_104, s120_107, nI_add, if_neg e, tx_g11 S, List.getElem?_cons_zero, List.getElem?_cons_succ, Option.bind_some, Option.toList_some, Option.toList_none, List.cons_append, List.nil_append, sb, bl, if_true, if_pos e2, nI_1]
      exact b1
def lnF (n : Nat) (T : Nat → Bool) (i : Nat) (ln : List Int32) : Prop := ∀ j, j < n → (T j = true → ln.getD j 0 = if j < i then nI (cntB T j + 1) else 1) ∧ (T j = false → ln.getD j 0 = 0)
theorem y_numLoop {T : Nat → Bool} (hn : n ≤ 120) : ∀ (r i : Nat) (ln : List Int32) (w : ex_W), i + r = n → isTx w0 w m v t ds bg ln → lnF n T i ln → ∃ (ln2 : List Int32) (w2 : ex_W), ex_go X 120 115 [(0, .ref 32), (2, .int (nI n)), (3, .int (nI (cntB T i))), (4, .int (nI i))] [] w = some (none, w2) ∧ isTx w0 w2 m v t ds bg ln2 ∧ lnF n T n ln2 := by
  intro r
  induction r with
  | zero =>
    intro i ln w hi S Mk
    have e : nI n ≤ nI i := nI_le (by omega) (by omega)
    have hi : i = n := by omega
    refine ⟨ln, w, ?_, S, by rw [hi] at Mk; exact Mk⟩
    simp (disch := first | assumption | decide) only [s120_115, s120_117, s120_118, s120_153, if_pos e]
  | succ r ih =>
    intro i ln w hi S Mk
    have e : ¬ nI n ≤ nI i := nI_ge (by omega) (by omega)
    have hll := S.2.2.2.2.2.2.2.2.2
    have ll := tx_ll (i := i) S (by omega)
    have Mi := Mk i (by omega)
    cases hT : T i with
    | true =>
      rw [Mi.1 hT, if_neg (by omega)] at ll
      have cn : cntB T (i + 1) = cntB T i + 1 := by rw [cntB, hT, if_pos rfl]
      have ad : 1 + nI (cntB T i) = nI (cntB T i + 1) := by rw [Int32.add_comm]; exact nI_1 _
      have mu : 1 * nI (cntB T i + 1) = nI (cntB T i + 1) := Int32.one_mul _
      obtain ⟨as, S1⟩ := tx_ls (i := i) (x := nI (cntB T i + 1)) S (by omega)
      obtain ⟨ln3, w3, b1, b2, b3⟩ := ih (i + 1) _ _ (by omega) S1 (by
        intro j hj
        rw [set_get (by omega)]
        by_cases qz : i = j
        · subst qz
          rw [if_pos rfl]
          refine ⟨fun _ => by rw [if_pos (by omega)], fun h => ?_⟩
          rw [hT] at h
          cases h
        · rw [if_neg qz]
          refine ⟨fun h => ?_, (Mk j hj).2⟩
          rw [(Mk j hj).1 h]
          by_cases c : j < i
          · rw [if_pos c, if_pos (by omega)]
          · rw [if_neg c, if_neg (by omega)])
      refine ⟨ln3, w3, ?_, b2, b3⟩
      rw [cn] at b1
      rw [s120_115]
      simp (disch := first | assumption | decide) only [s120_117, s120_118, s120_121, s120_122, s120_125, s120_127, s120_128, s120_129, s120_130, s120_131, s120_132, s120_135, s120_137, s120_138, s120_141, s120_143, s120_144, s120_145, s120_146, s120_147, s120_150, if_neg e, tx_g12 S, List.getElem?_cons_zero, List.getElem?_cons_succ, Option.bind_some, Option.toList_some, Option.toList_none, List.cons_append, List.nil_append, ll, ad, mu, as, nI_1, b1]
    | false =>
      rw [Mi.2 hT] at ll
      have cn : cntB T (i + 1) = cntB T i := by rw [cntB, hT, if_neg Bool.false_ne_true, Nat.add_zero]
      have ad : 0 + nI (cntB T i) = nI (cntB T i) := Int32.zero_add _
      have mu : 0 * nI (cntB T i) = 0 := Int32.zero_mul
      obtain ⟨as, S1⟩ := tx_ls (i := i) (x := 0) S (by omega)
      obtain ⟨ln3, w3, b1, b2, b3⟩ := ih (i + 1) _ _ (by omega) S1 (by
        intro j hj
        rw [set_get (by omega)]
        by_cases qz : i = j
        · subst qz
          rw [if_pos rfl]
          refine ⟨fun h => ?_, fun _ => rfl⟩
          rw [hT] at h
          cases h
        · rw [if_neg qz]
          refine ⟨fun h => ?_, (Mk j hj).2⟩
          rw [(Mk j hj).1 h]
          by_cases c : j < i
          · rw [if_pos c, if_pos (by omega)]
          · rw [if_neg c, if_neg (by omega)])
      refine ⟨ln3, w3, ?_, b2, b3⟩
      rw [cn] at b1
      rw [s120_115]
      simp (disch := first | assumption | decide) only [s120_117, s120_118, s120_121, s120_122, s120_125, s120_127, s120_128, s120_129, s120_130, s120_131, s120_132, s120_135, s120_137, s120_138, s120_141, s120_143, s120_144, s120_145, s120_146, s120_147, s120_150, if_neg e, tx_g12 S, List.getElem?_cons_zero, List.getElem?_cons_succ, Option.bind_some, Option.toList_some, Option.toList_none, List.cons_append, List.nil_append, ll, ad, mu, as, nI_1, b1]
theorem y_findLines (S : isTx w0 w m v t ds bg ln) (Y : isBm w0 bs B) (hL : okL B f n L) (hn : n ≤ 120) (hf : f + n ≤ B.length) (hb : bgS f n L bg) : ∃ (ln2 : List Int32) (w2 : ex_W), ex_call X 120 [.ref 32, .int (nI f), .int (nI n)] w = some (none, w2) ∧ isTx w0 w2 m v t ds bg ln2 ∧ lnF n (Tb B f n L) n ln2 := by
  obtain ⟨ln1, w1, a1, S1, c1⟩ := y_zeroLoop (X := X) (f := f) hn (n + 1) 0 ln w (by omega) S (fun j hj => by omega)
  obtain ⟨ln2, w2, a2, S2, c2⟩ := y_outerLoop (X := X) Y hL hn hf hb n 0 ln1 w1 (by omega) S1 (by
    intro j hj
    refine ⟨fun h1 h2 => ?_, fun _ => c1 j (by omega)⟩
    rcases h2 with ⟨p, x1, x2, x3⟩ | ⟨p, x1, x2⟩
    · have := hL p x1
      omega
    · omega)
  obtain ⟨ln3, w3, a3, S3, c3⟩ := y_numLoop (X := X) (T := Tb B f n L) hn n 0 ln2 w2 (by omega) S2 (by
    intro j hj
    refine ⟨fun h => ?_, fun h => (c2 j hj).2 (fun y => ?_)⟩
    · rw [Tb_iff] at h
      rw [(c2 j hj).1 h.2.1 h.2.2, if_neg (by omega)]
    · rw [Tb_iff.mpr ⟨hj, y⟩] at h
      cases h)
  refine ⟨ln3, w3, ?_, S3, c3⟩
  have a1 : ex_go X 120 2 [(0, .ref 32), (1, .int (nI f)), (2, .int (nI n)), (3, .int 0)] [] w = _ := a1
  rw [Nat.add_zero] at a2
  have a3 : ex_go X 120 115 [(0, .ref 32), (2, .int (nI n)), (3, .int 0), (4, .int 0)] [] w2 = _ := a3
  show ex_go X 120 0 [(0, .ref 32), (1, .int (nI f)), (2, .int (nI n))] [] w = _
  simp (disch := first | assumption | decide) only [s120_0, s120_1, a1]
  simp (disch := first | assumption | decide) only [s120_20, s120_21, a2]
  simp (disch := first | assumption | decide) only [s120_110, s120_111, s120_112, s120_113, a3]
end LINES3
