/-! the other object's read -/
theorem nI_sur (x : Int32) : x = nI x.toBitVec.toNat := by
  have := pk_and x (m := -1) 32 rfl
  have e : x &&& -1 = x := Int32.and_neg_one
  rw [e, Nat.mod_eq_of_lt x.toBitVec.isLt] at this
  exact this
/-- made ready to read -/
def RI (A : Nat → Int32) (w : ex_W) (S : List Nat) : Prop := (∃ mn pl fr to ft tot pt ca v ls ns, w[32]? = some (rd A mn (nI S.length) pl fr to ft tot pt ca (nI ls.length) (nI ns.length) v) ∧ isRl w ls ns) ∧ ∃ ms : List Int32, w[34]? = some (.inr (0, ms)) ∧ ms.length = 140
def RD (w0 : ex_W) (A : Nat → Int32) (w : ex_W) (S M : List Nat) : Prop := ∃ p fr to v b q ca ls ns, RS w0 A w S p fr to v M b q ca ls ns
section REFB
variable {X : Option (List Int32)} {w0 w : ex_W} {A : Nat → Int32} {S : List Nat} {p : Nat} {fr to : Int32} {v : Int64} {M : List Nat} {b q ca : Nat} {ls : List Nat} {ns : NM}
theorem y_endLoop : ∀ (j q : Nat) (M : List Nat) (w : ex_W), q + j = 3 → RS w0 A w S p fr to v M b q ca ls ns → M.length + j ≤ 140 → ∃ w2, ex_go X 136 105 [(0, .ref 32)] [] w = some (some (.int 1), w2) ∧ RS w0 A w2 S p fr to v (M ++ List.replicate j 0) b 3 ca ls ns := by
  intro j
  induction j with
  | zero =>
    intro q M w hq K hM
    have e : (3 : Int32) ≤ nI q := nI_le (a := 3) (by omega) (by omega)
    have eq : q = 3 := by omega
    subst eq
    refine ⟨w, ?_, (List.append_nil M).symm ▸ K⟩
    simp (disch := first | assumption | decide) only [s136_105, s136_106, s136_109, s136_110, s136_131, s136_132, rs_g K, List.getElem?_cons_zero, List.getElem?_cons_succ, Option.bind_some, Option.toList_some, Option.toList_none, List.cons_append, List.nil_append, not_true_eq_false, if_false, if_true, if_pos e]
  | succ j ih =>
    intro q M w hq K hM
    have e : ¬ (3 : Int32) ≤ nI q := nI_ge (b := 3) (by omega) (by decide)
    have K1 := rs_set (p2 := p) (fr2 := fr) (to2 := to) (v2 := v) (b2 := b) (q2 := q + 1) (ca2 := ca) K
    have rc1 := rs_rc K1
    obtain ⟨w2, a2, K2⟩ := y_add (X := X) (x := 0) (c := 0) K1 (by omega) (by decide)
    obtain ⟨w3, a3, K3⟩ := ih (q + 1) _ w2 (by omega) K2 (by rw [List.length_append, List.length_singleton]; omega)
    refine ⟨w3, ?_, ?_⟩
    · rw [s136_105]
      simp (disch := first | assumption | decide) only [s136_106, s136_109, s136_110, s136_113, s136_114, s136_115, s136_118, s136_119, s136_120, s136_123, s136_124, s136_125, s136_128, rs_g K, List.getElem?_cons_zero, List.getElem?_cons_succ, Option.bind_some, Option.toList_some, Option.toList_none, List.cons_append, List.nil_append, not_true_eq_false, if_false, if_true, if_neg e, nI_1, rs_p21 K, a2, a3]
    · rw [List.append_assoc] at K3
      exact K3
theorem y_topLoop {J : Nat → Nat → Prop} (E : isSr w0 S) (hC : chOK S) (hJ : lnJ S J) : ∀ (k p : Nat) (fr to : Int32) (v : Int64) (D : List Nat) (q b : Nat) (I : List (List Nat)) (ls : List Nat) (ns : NM) (w : ex_W), S.length - p < k → p ≤ S.length → RS w0 A w S p fr to v (M0 D I) b q D.length ls ns → (M0 D I).length + 3 - q = b → b ≤ 120 → q ≤ 3 → I.length ≤ p → (∀ M, topP S k p D q I = .inr M → ∃ w2, ex_go X 136 89 [(0, .ref 32)] [] w = some (some (.int 1), w2) ∧ RD w0 A w2 S M) ∧ (∀ f, topP S k p D q I = .inl f → ∃ w2, ex_go X 136 89 [(0, .ref 32)] [] w = some (some (.int 0), w2) ∧ RF w0 A w2 f) := by
  have hl0 := lt_len E
  have n1 : ¬ (1 : Int32) = 0 := by decide
  intro k
  induction k with
  | zero => intro p fr to v D q b I ls ns w h; omega
  | succ k ih =>
    intro p fr to v D q b I ls ns w hk hp K hb h120 hq hI
    have wb := w_b hp
    have rc := rs_rc K
    obtain ⟨w1, a1, K1⟩ := y_next (X := X) K E hp
    have rc1 := rs_rc K1
    rw [topP]
    by_cases hw : wF S p < wT S p
    · rw [if_pos hw] at a1
      rw [if_pos hw, hb]
      have it := y_readOne (X := X) K1 E hC hJ hp hw hq hb h120 (by omega)
      cases hP : itemP S q p b with
      | inl f =>
        obtain ⟨w2, a2, F2⟩ := it.2 f hP
        refine ⟨fun M z => (by cases z), fun g z => ?_⟩
        cases z
        refine ⟨w2, ?_, F2⟩
        rw [s136_89]
        simp (disch := first | assumption | decide) only [s136_90, s136_93, s136_96, s136_97, s136_100, s136_103, s136_104, a1, List.getElem?_cons_zero, List.getElem?_cons_succ, Option.bind_some, Option.toList_some, Option.toList_none, List.cons_append, List.nil_append, not_true_eq_false, if_false, if_true, if_neg n1, a2]
      | inr u =>
        obtain ⟨j, t, xs⟩ := u
        obtain ⟨w2, fr2, to2, v2, ls2, ns2, a2, K2, t2, p2, q2, j3, b2⟩ := it.1 j t xs hP
        have e : nxD D I q j ++ ((nxI I q j).length + 1) :: (nxI I q j).flatten ++ xs = M0 (nxD D I q j) (nxI I q j ++ [xs]) := by
          unfold M0
          rw [List.length_append, List.length_singleton, List.flatten_append, List.append_assoc]
          simp only [List.flatten_cons, List.flatten_nil, List.append_nil, List.cons_append]
        rw [e] at K2
        have ln := congrArg List.length (nx_M0 (D := D) (I := I) q2)
        rw [M0_len, List.length_append, List.length_replicate] at ln
        have ll : (M0 (nxD D I q j) (nxI I q j ++ [xs])).length = (nxD D I q j).length + 1 + (nxI I q j).flatten.length + xs.length := by
          rw [← e, List.length_append, List.length_append, List.length_cons]
          omega
        have il : (nxI I q j).length ≤ I.length := by
          unfold nxI
          split
          · exact Nat.le_refl _
          · exact Nat.zero_le _
        have ihh := ih t fr2 to2 v2 (nxD D I q j) j (b + xs.length) (nxI I q j ++ [xs]) ls2 ns2 w2 (by omega) t2 K2 (by omega) b2 j3 (by rw [List.length_append, List.length_singleton]; omega)
        have st0 : ex_go X 136 89 [(0, .ref 32)] [] w = ex_go X 136 89 [(0, .ref 32)] [] w2 := by
          rw [s136_89]
          simp (disch := first | assumption | decide) only [s136_90, s136_93, s136_96, s136_97, s136_100, a1, List.getElem?_cons_zero, List.getElem?_cons_succ, Option.bind_some, Option.toList_some, Option.toList_none, List.cons_append, List.nil_append, not_true_eq_false, if_false, if_true, if_neg n1, a2, if_pos n1]
        rw [st0]
        exact ihh
    · rw [if_neg hw] at a1
      rw [if_neg hw]
      have h140 := rs_140 K1
      obtain ⟨w2, a2, K2⟩ := y_endLoop (X := X) (3 - q) q (M0 D I) w1 (by omega) K1 (by omega)
      refine ⟨fun M z => ?_, fun g z => (by cases z)⟩
      cases z
      refine ⟨w2, ?_, ⟨_, _, _, _, _, _, _, _, _, K2⟩⟩
      rw [s136_89]
      simp (disch := first | assumption | decide) only [s136_90, s136_93, a1, List.getElem?_cons_zero, List.getElem?_cons_succ, Option.bind_some, Option.toList_some, Option.toList_none, List.cons_append, List.nil_append, not_true_eq_false, if_false, if_true]
      exact a2
theorem y_read {J : Nat → Nat → Prop} (R : RI A w S) (E : isSr w S) (hC : chOK S) (hJ : lnJ S J) : (∀ M, parP S = .inr M → ∃ w2, ex_call X 136 [.ref 32] w = some (some (.int 1), w2) ∧ RD w A w2 S M) ∧ (∀ f, parP S = .inl f → ∃ w2, ex_call X 136 [.ref 32] w = some (some (.int 0), w2) ∧ RF w A w2 f) := by
  obtain ⟨⟨mn, pl, fr, to, ft, tot, pt, ca, v, ls, ns, h32, hRl⟩, ms, m1, m2⟩ := R
  have n1 : ¬ (1 : Int32) = 0 := by decide
  have hl0 := lt_len E
  have hs := nI_sur ca
  generalize ca.toBitVec.toNat = cn at hs
  subst hs
  have P : ∀ (c d : ex_C) (k : Nat) (x : Value), ex_pf (w.set 32 c) 32 8 k x = some ((w.set 32 c).set 32 d) → ex_pf (w.set 32 c) 32 8 k x = some (w.set 32 d) := by
    intro c d k x h
    rw [List.set_set] at h
    exact h
  have p1 : ex_pf w 32 8 15 (.int 0) = some (w.set 32 (rd A mn (nI S.length) 0 fr to ft tot pt (nI cn) (nI ls.length) (nI ns.length) v)) := ex_pf_i h32 (Nat.le_of_ble_eq_true rfl)
  have p2 : ex_pf (w.set 32 (rd A mn (nI S.length) 0 fr to ft tot pt (nI cn) (nI ls.length) (nI ns.length) v)) 32 8 18 (.int (-1)) = some (w.set 32 (rd A mn (nI S.length) 0 fr to (-1) tot pt (nI cn) (nI ls.length) (nI ns.length) v)) := P _ _ _ _ (ex_pf_i (ex_set_s h32) (Nat.le_of_ble_eq_true rfl))
  have p3 : ex_pf (w.set 32 (rd A mn (nI S.length) 0 fr to (-1) tot pt (nI cn) (nI ls.length) (nI ns.length) v)) 32 8 3 (.int 0) = some (w.set 32 (rd A 0 (nI S.length) 0 fr to (-1) tot pt (nI cn) (nI ls.length) (nI ns.length) v)) := P _ _ _ _ (ex_pf_i (ex_set_s h32) (Nat.le_of_ble_eq_true rfl))
  have p4 : ex_pf (w.set 32 (rd A 0 (nI S.length) 0 fr to (-1) tot pt (nI cn) (nI ls.length) (nI ns.length) v)) 32 8 20 (.int 5) = some (w.set 32 (rd A 0 (nI S.length) 0 fr to (-1) 5 pt (nI cn) (nI ls.length) (nI ns.length) v)) := P _ _ _ _ (ex_pf_i (ex_set_s h32) (Nat.le_of_ble_eq_true rfl))
  have p5 : ex_pf (w.set 32 (rd A 0 (nI S.length) 0 fr to (-1) 5 pt (nI cn) (nI ls.length) (nI ns.length) v)) 32 8 21 (.int 0) = some (w.set 32 (rd A 0 (nI S.length) 0 fr to (-1) 5 0 (nI cn) (nI ls.length) (nI ns.length) v)) := P _ _ _ _ (ex_pf_i (ex_set_s h32) (Nat.le_of_ble_eq_true rfl))
  have o : ∀ j, j ≠ 32 → (w.set 32 (rd A 0 (nI S.length) 0 fr to (-1) 5 0 (nI cn) (nI ls.length) (nI ns.length) v))[j]? = w[j]? := fun j h => List.getElem?_set_ne (Ne.symm h)
  have K0 : RS w A (w.set 32 (rd A 0 (nI S.length) 0 fr to (-1) 5 0 (nI cn) (nI ls.length) (nI ns.length) v)) S 0 fr to v [] 5 0 cn ls ns := ⟨⟨List.length_set, fun j hj => o j (by omega)⟩, ex_set_s h32, ⟨ms, (o 34 (by decide)).trans m1, m2, holds_nil⟩, rl_o hRl (fun j h1 h2 => o j (by omega))⟩
  have rc0 := rs_rc K0
  obtain ⟨w1, a1, K1⟩ := y_add (X := X) (x := 77) (c := 77) K0 (by decide) (by decide)
  have rc1 := rs_rc K1
  have hp0 : 0 ≤ S.length := Nat.zero_le _
  have wb := w_b hp0
  have hd : ex_call X 136 [.ref 32] w = ex_go X 136 31 [(0, .ref 32)] [] w1 := by
    show ex_go X 136 0 [(0, .ref 32)] [] w = _
    simp (disch := first | assumption | decide) only [s136_0, s136_1, s136_2, s136_5, s136_6, s136_7, s136_10, s136_11, s136_12, s136_15, s136_16, s136_17, s136_20, s136_21, s136_22, s136_25, s136_26, s136_28, p1, p2, p3, p4, p5, List.getElem?_cons_zero, List.getElem?_cons_succ, Option.bind_some, Option.toList_some, Option.toList_none, List.cons_append, List.nil_append, not_true_eq_false, if_false, if_true, a1]
  rw [hd]
  have mu := y_must (X := X) K1 E hp0
  unfold parP
  by_cases cw : wF S 0 < wT S 0
  · obtain ⟨w2, a2, K2⟩ := mu.1 cw
    have rc2 := rs_rc K2
    have i0 : ex_call X 141 [.ref 32, .int 98, .int 108, .int 111, .int 99, .int 107, .int 0] w2 = _ := y_is (X := X) (xs := txN 0) (c0 := 98) (c1 := 108) (c2 := 111) (c3 := 99) (c4 := 107) (c5 := 0) K2 E hp0 cw (by decide) (by decide +kernel) (by decide +kernel) (by decide +kernel) (by decide +kernel) (by decide +kernel) (by decide +kernel) (by decide +kernel)
    by_cases c0 : wd S 0 = txN 0
    · rw [if_pos c0] at i0
      rw [if_pos c0]
      have rb := y_readByte (X := X) (lo := 0) (hi := 255) K2 E wb.2.2.1 (by decide) (by decide)
      have rb : outR w A S (ex_call X 143 [.ref 32, .int 0, .int 255] w2) (one S (wT S 0) (rNum S 0 255 1 (wT S 0) 5)) [77] 5 0 cn ls ns := rb
      cases hN : rNum S 0 255 1 (wT S 0) 5 with
      | none =>
        rw [hN] at rb
        obtain ⟨w3, a3, F3⟩ := rb.2 _ rfl
        refine ⟨fun M z => (by cases z), fun g z => ?_⟩
        cases z
        refine ⟨w3, ?_, F3⟩
        simp (disch := first | assumption | decide) only [s136_31, s136_32, s136_35, s136_38, s136_39, s136_40, s136_41, s136_43, s136_45, s136_47, s136_49, s136_51, s136_52, s136_55, s136_58, s136_59, s136_62, s136_63, s136_64, s136_65, s136_68, s136_71, s136_74, s136_75, a2, List.getElem?_cons_zero, List.getElem?_cons_succ, Option.bind_some, Option.toList_some, Option.toList_none, List.cons_append, List.nil_append, not_true_eq_false, if_false, if_true, if_pos n1, i0, a3]
      | some ys =>
        rw [hN] at rb
        obtain ⟨w3, fr3, to3, v3, a3, K3, t3, b3⟩ := rb.1 _ _ rfl
        have yl := rNum_len hN
        have K3 : RS w A w3 S (wT S (wT S 0)) fr3 to3 v3 (77 :: ys) (5 + ys.length) 0 cn ls ns := K3
        rw [yl.1] at K3
        have K4 := rs_set (p2 := wT S (wT S 0)) (fr2 := fr3) (to2 := to3) (v2 := v3) (b2 := 6) (q2 := 0) (ca2 := (77 :: ys).length) K3
        have rc4 := rs_rc K4
        obtain ⟨w5, a5, K5⟩ := y_add (X := X) (x := 0) (c := 0) K4 (by rw [List.length_cons]; omega) (by decide)
        have ml : (M0 (77 :: ys) []).length = 3 := by
          rw [M0_len, List.length_cons, yl.1]
          rfl
        have K5 : RS w A w5 S (wT S (wT S 0)) fr3 to3 v3 (M0 (77 :: ys) []) 6 0 (77 :: ys).length ls ns := K5
        have tp := y_topLoop (X := X) E hC hJ (S.length + 1) (wT S (wT S 0)) fr3 to3 v3 (77 :: ys) 0 6 [] ls ns w5 (by omega) t3 K5 (by rw [ml]) (by decide) (by decide) (Nat.zero_le _)
        have st0 : ex_go X 136 31 [(0, .ref 32)] [] w1 = ex_go X 136 89 [(0, .ref 32)] [] w5 := by
          have p22 := rs_p22 (x := (77 :: ys).length) K3
          simp (disch := first | assumption | decide) only [s136_31, s136_32, s136_35, s136_38, s136_39, s136_40, s136_41, s136_43, s136_45, s136_47, s136_49, s136_51, s136_52, s136_55, s136_58, s136_59, s136_62, s136_63, s136_64, s136_65, s136_68, s136_71, s136_74, s136_75, s136_76, s136_77, s136_78, s136_81, s136_84, s136_85, s136_86, a2, List.getElem?_cons_zero, List.getElem?_cons_succ, Option.bind_some, Option.toList_some, Option.toList_none, List.cons_append, List.nil_append, not_true_eq_false, if_false, if_true, if_pos n1, i0, a3, rs_g K3, p22, a5]
        rw [st0]
        exact tp
    · rw [if_neg c0] at i0
      rw [if_neg c0]
      obtain ⟨w3, a3, F3⟩ := y_wrong (X := X) K2
      refine ⟨fun M z => (by cases z), fun g z => ?_⟩
      cases z
      refine ⟨w3, ?_, F3⟩
      simp (disch := first | assumption | decide) only [s136_31, s136_32, s136_35, s136_38, s136_39, s136_40, s136_41, s136_43, s136_45, s136_47, s136_49, s136_51, s136_52, s136_55, s136_58, s136_59, s136_62, a2, List.getElem?_cons_zero, List.getElem?_cons_succ, Option.bind_some, Option.toList_some, Option.toList_none, List.cons_append, List.nil_append, not_true_eq_false, if_false, if_true, if_pos n1, i0, a3]
  · obtain ⟨w2, a2, F2⟩ := mu.2 cw
    rw [if_neg (fun z => cw (wd_ne hp0 (by rw [z]; decide +kernel)))]
    refine ⟨fun M z => (by cases z), fun g z => ?_⟩
    cases z
    refine ⟨w2, ?_, F2⟩
    simp (disch := first | assumption | decide) only [s136_31, s136_32, s136_35, s136_38, s136_39, a2, List.getElem?_cons_zero, List.getElem?_cons_succ, Option.bind_some, Option.toList_some, Option.toList_none, List.cons_append, List.nil_append, not_true_eq_false, if_false, if_true]
end REFB
