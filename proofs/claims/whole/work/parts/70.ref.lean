/-! the other object's numbers -/
theorem lgc_lt {a b : Int64} : lg_cmp a b < 0 ↔ ¬ b ≤ a := by
  rw [← lg_cmp_ge a b]
  rw [Int32.lt_iff_toInt_lt, Int32.le_iff_toInt_le]
  omega
theorem lgc_le {a b : Int64} : lg_cmp a b ≤ 0 ↔ a ≤ b := by
  have h1 := lgc_lt (a := a) (b := b)
  have h2 := lg_cmp_eq a b
  have z : (0 : Int32).toInt = 0 := rfl
  rw [Int32.lt_iff_toInt_lt, Int64.le_iff_toInt_le, z] at h1
  rw [Int32.le_iff_toInt_le, Int64.le_iff_toInt_le, z]
  rw [← Int32.toInt_inj, ← Int64.toInt_inj, z] at h2
  omega
theorem nuV_mono {S : List Nat} : ∀ (k i N N2 : Nat), nuV S k i N = some N2 → N ≤ N2 := by
  intro k
  induction k with
  | zero => intro i N N2 h; rw [nuV] at h; cases h; exact Nat.le_refl _
  | succ k ih =>
    intro i N N2 h
    rw [nuV] at h
    split at h
    next => have := ih _ _ _ h; omega
    next => cases h
section REF2
variable {X : Option (List Int32)} {w0 w : ex_W} {A : Nat → Int32} {S : List Nat} {p : Nat} {fr to : Int32} {v : Int64} {M : List Nat} {b q ca : Nat} {ls : List Nat} {ns : NM}
theorem y_digLoopR {t : Nat} (E : isSr w0 S) (ht : t ≤ S.length) : ∀ (k i N : Nat) (w : ex_W), i + k = t → RS w0 A w S p fr (nI t) (ng N) M b q ca ls ns → N ≤ 2 ^ 63 → (∀ N2, nuV S k i N = some N2 → N2 ≤ 2 ^ 63 → ∃ w2, ex_go X 145 38 [(0, .ref 32), (2, .int (nI i))] [] w = some (some (.int 1), w2) ∧ RS w0 A w2 S p fr (nI t) (ng N2) M b q ca ls ns) ∧ (¬ (∃ N2, nuV S k i N = some N2 ∧ N2 ≤ 2 ^ 63) → ∃ w2 v2, ex_go X 145 38 [(0, .ref 32), (2, .int (nI i))] [] w = some (some (.int 0), w2) ∧ RS w0 A w2 S p fr (nI t) v2 M b q ca ls ns) := by
  have hl := lt_len E
  intro k
  induction k with
  | zero =>
    intro i N w hi K hN
    have e : nI t ≤ nI i := nI_le (by omega) (by omega)
    rw [nuV]
    refine ⟨fun N2 z _ => ?_, fun h => absurd ⟨N, rfl, hN⟩ h⟩
    cases z
    refine ⟨w, ?_, K⟩
    simp (disch := first | assumption | decide) only [s145_38, s145_39, s145_40, s145_43, s145_117, s145_118, rs_g K, List.getElem?_cons_zero, List.getElem?_cons_succ, Option.bind_some, Option.toList_some, Option.toList_none, List.cons_append, List.nil_append, not_true_eq_false, if_false, if_true, if_pos e]
  | succ k ih =>
    intro i N w hi K hN
    have e : ¬ nI t ≤ nI i := nI_ge (by omega) (by omega)
    have al := rs_al K E (i := i) (by omega)
    have hb := lt_b E i
    have eq1 : (-922337203685477580 : Int64).toInt = -922337203685477580 := rfl
    have tn := ng_toInt hN
    have hd : ex_go X 145 38 [(0, .ref 32), (2, .int (nI i))] [] w = ex_go X 145 56 [(0, .ref 32), (2, .int (nI i)), (3, .int (nI (S.getD i 0) - 48))] [] w := by
      simp (disch := first | assumption | decide) only [s145_38, s145_39, s145_40, s145_43, s145_46, s145_47, s145_50, s145_51, s145_52, s145_54, s145_55, rs_g K, List.getElem?_cons_zero, List.getElem?_cons_succ, Option.bind_some, Option.toList_some, Option.toList_none, List.cons_append, List.nil_append, not_true_eq_false, if_false, if_true, if_neg e, al]
    rw [hd, nuV]
    by_cases c : 48 ≤ S.getD i 0 ∧ S.getD i 0 ≤ 57
    · have ed : nI (S.getD i 0) - 48 = nI (S.getD i 0 - 48) := pk_sub (b := 48) c.1
      have d0 : ¬ nI (S.getD i 0 - 48) < 0 := nI_pos (by omega)
      have d9 : ¬ 9 < nI (S.getD i 0 - 48) := nI_nlt (a := 9) (b := S.getD i 0 - 48) (by omega) (by decide)
      rw [if_pos c, ed]
      by_cases c2 : 10 * N + (S.getD i 0 - 48) ≤ 2 ^ 63
      · have g1 : ¬ lg_cmp (ng N) (-922337203685477580) < 0 := by
          rw [lgc_lt, Int64.le_iff_toInt_le, eq1, tn]
          omega
        have st : (10 : Int64) * ng N - (nI (S.getD i 0 - 48)).toInt64 = ng (10 * N + (S.getD i 0 - 48)) := by
          rw [Int64.mul_comm]
          exact ng_step c2 (by omega)
        have K2 := rs_set (p2 := p) (fr2 := fr) (to2 := nI t) (v2 := ng (10 * N + (S.getD i 0 - 48))) (b2 := b) (q2 := q) (ca2 := ca) K
        have ihh := ih (i + 1) _ _ (by omega) K2 c2
        have tail : ex_go X 145 96 [(0, .ref 32), (2, .int (nI i)), (3, .int (nI (S.getD i 0 - 48)))] [] w = ex_go X 145 38 [(0, .ref 32), (2, .int (nI (i + 1)))] [] (w.set 32 (rd A (nI M.length) (nI S.length) (nI p) fr (nI t) (-1) (nI b) (nI q) (nI ca) (nI ls.length) (nI ns.length) (ng (10 * N + (S.getD i 0 - 48))))) := by
          simp (disch := first | assumption | decide) only [s145_96, s145_97, s145_100, s145_101, s145_104, s145_105, s145_106, s145_107, s145_108, s145_111, s145_114, rs_g K, List.getElem?_cons_zero, List.getElem?_cons_succ, Option.bind_some, Option.toList_some, Option.toList_none, List.cons_append, List.nil_append, not_true_eq_false, if_false, if_true, st, rs_p19 K, nI_1]
        have stp : ex_go X 145 56 [(0, .ref 32), (2, .int (nI i)), (3, .int (nI (S.getD i 0 - 48)))] [] w = ex_go X 145 96 [(0, .ref 32), (2, .int (nI i)), (3, .int (nI (S.getD i 0 - 48)))] [] w := by
          by_cases g2 : lg_cmp (ng N) (-922337203685477580) = 0
          · have e8 : nI (S.getD i 0 - 48) ≤ 8 := nI_le (b := 8) (by
              have := (lg_cmp_eq _ _).mp g2
              rw [← Int64.toInt_inj, eq1, tn] at this
              omega) (by decide)
            have g3 : ¬ ¬ lg_cmp (ng N) (-922337203685477580) = 0 := fun z => z g2
            simp (disch := first | assumption | decide) only [s145_56, s145_57, s145_60, s145_61, s145_63, s145_66, s145_67, s145_70, s145_73, s145_74, s145_77, s145_78, s145_81, s145_84, s145_85, s145_88, s145_89, s145_91, if_neg d0, if_neg d9, rs_g K, List.getElem?_cons_zero, List.getElem?_cons_succ, Option.bind_some, Option.toList_some, Option.toList_none, List.cons_append, List.nil_append, not_true_eq_false, if_false, if_true, if_neg g1, if_neg g3, if_pos e8]
          · simp (disch := first | assumption | decide) only [s145_56, s145_57, s145_60, s145_61, s145_63, s145_66, s145_67, s145_70, s145_73, s145_74, s145_77, s145_78, s145_81, s145_84, s145_85, s145_88, s145_89, s145_91, if_neg d0, if_neg d9, rs_g K, List.getElem?_cons_zero, List.getElem?_cons_succ, Option.bind_some, Option.toList_some, Option.toList_none, List.cons_append, List.nil_append, not_true_eq_false, if_false, if_true, if_neg g1, if_pos g2]
        rw [stp, tail]
        exact ihh
      · refine ⟨fun N2 z h => ?_, fun _ => ⟨w, ng N, ?_, K⟩⟩
        · have := nuV_mono _ _ _ _ z
          omega
        · by_cases g1 : lg_cmp (ng N) (-922337203685477580) < 0
          · simp (disch := first | assumption | decide) only [s145_56, s145_57, s145_60, s145_61, s145_63, s145_66, s145_67, s145_70, s145_73, s145_74, s145_77, s145_78, s145_81, s145_84, s145_85, s145_88, s145_89, s145_91, s145_94, s145_95, if_neg d0, if_neg d9, rs_g K, List.getElem?_cons_zero, List.getElem?_cons_succ, Option.bind_some, Option.toList_some, Option.toList_none, List.cons_append, List.nil_append, not_true_eq_false, if_false, if_true, if_pos g1]
          · have g1' := g1
            rw [lgc_lt, Int64.le_iff_toInt_le, eq1, tn] at g1'
            have g3 : ¬ ¬ lg_cmp (ng N) (-922337203685477580) = 0 := fun z => z ((lg_cmp_eq _ _).mpr (by
              rw [← Int64.toInt_inj, eq1, tn]
              omega))
            have e8 : ¬ nI (S.getD i 0 - 48) ≤ 8 := nI_ge (a := 8) (by omega) (by omega)
            simp (disch := first | assumption | decide) only [s145_56, s145_57, s145_60, s145_61, s145_63, s145_66, s145_67, s145_70, s145_73, s145_74, s145_77, s145_78, s145_81, s145_84, s145_85, s145_88, s145_89, s145_91, s145_94, s145_95, if_neg d0, if_neg d9, rs_g K, List.getElem?_cons_zero, List.getElem?_cons_succ, Option.bind_some, Option.toList_some, Option.toList_none, List.cons_append, List.nil_append, not_true_eq_false, if_false, if_true, if_neg g1, if_neg g3, if_neg e8]
    · rw [if_neg c]
      refine ⟨fun N2 z => (by cases z), fun _ => ⟨w, ng N, ?_, K⟩⟩
      by_cases c1 : 48 ≤ S.getD i 0
      · have ed : nI (S.getD i 0) - 48 = nI (S.getD i 0 - 48) := pk_sub (b := 48) c1
        have d0 : ¬ nI (S.getD i 0 - 48) < 0 := nI_pos (by omega)
        have d9 : 9 < nI (S.getD i 0 - 48) := nI_lt (a := 9) (by omega) (by omega)
        rw [ed]
        simp (disch := first | assumption | decide) only [s145_56, s145_57, s145_60, s145_61, s145_63, s145_66, s145_67, s145_70, s145_73, s145_74, s145_77, s145_78, s145_81, s145_84, s145_85, s145_88, s145_89, s145_91, s145_94, s145_95, if_neg d0, if_pos d9]
      · have d0 : nI (S.getD i 0) - 48 < 0 := pk_sneg (b := 48) (by decide) (by omega)
        simp (disch := first | assumption | decide) only [s145_56, s145_57, s145_60, s145_61, s145_63, s145_66, s145_67, s145_70, s145_73, s145_74, s145_77, s145_78, s145_81, s145_84, s145_85, s145_88, s145_89, s145_91, s145_94, s145_95, if_pos d0]
theorem y_digits {a t : Nat} (K : RS w0 A w S p fr (nI t) v M b q ca ls ns) (E : isSr w0 S) (ht : t ≤ S.length) (ha : a ≤ t + 1) : (∀ N, numW S a t = some N → N ≤ 2 ^ 63 → ∃ w2, ex_call X 145 [.ref 32, .int (nI a)] w = some (some (.int 1), w2) ∧ RS w0 A w2 S p fr (nI t) (ng N) M b q ca ls ns) ∧ (¬ (∃ N, numW S a t = some N ∧ N ≤ 2 ^ 63) → ∃ w2 v2, ex_call X 145 [.ref 32, .int (nI a)] w = some (some (.int 0), w2) ∧ RS w0 A w2 S p fr (nI t) v2 M b q ca ls ns) := by
  have hl := lt_len E
  have K1 := rs_set (p2 := p) (fr2 := fr) (to2 := nI t) (v2 := ng 0) (b2 := b) (q2 := q) (ca2 := ca) K
  have p19 : ex_pf w 32 8 19 (.long 0) = some (w.set 32 (rd A (nI M.length) (nI S.length) (nI p) fr (nI t) (-1) (nI b) (nI q) (nI ca) (nI ls.length) (nI ns.length) (ng 0))) := rs_p19 (x := ng 0) K
  have hd : ex_call X 145 [.ref 32, .int (nI a)] w = ex_go X 145 5 [(0, .ref 32), (1, .int (nI a))] [] (w.set 32 (rd A (nI M.length) (nI S.length) (nI p) fr (nI t) (-1) (nI b) (nI q) (nI ca) (nI ls.length) (nI ns.length) (ng 0))) := by
    show ex_go X 145 0 [(0, .ref 32), (1, .int (nI a))] [] w = _
    simp (disch := first | assumption | decide) only [s145_0, s145_1, s145_2, p19, List.getElem?_cons_zero, List.getElem?_cons_succ, Option.bind_some, Option.toList_some, Option.toList_none, List.cons_append, List.nil_append, not_true_eq_false, if_false, if_true]
  rw [hd]
  unfold numW
  by_cases c : a < t ∧ (¬ S.getD a 0 = 48 ∨ a + 1 = t)
  · rw [if_pos c]
    have lp := y_digLoopR (X := X) E ht (t - a) a 0 _ (by omega) K1 (by decide)
    have e : ¬ nI t ≤ nI a := nI_ge c.1 (by omega)
    have al := rs_al K1 E (i := a) (by omega)
    have hb := lt_b E a
    have sb : nI t - nI a = nI (t - a) := pk_sub (by omega)
    have st : ex_go X 145 5 [(0, .ref 32), (1, .int (nI a))] [] (w.set 32 (rd A (nI M.length) (nI S.length) (nI p) fr (nI t) (-1) (nI b) (nI q) (nI ca) (nI ls.length) (nI ns.length) (ng 0))) = ex_go X 145 38 [(0, .ref 32), (2, .int (nI a))] [] (w.set 32 (rd A (nI M.length) (nI S.length) (nI p) fr (nI t) (-1) (nI b) (nI q) (nI ca) (nI ls.length) (nI ns.length) (ng 0))) := by
      by_cases c1 : S.getD a 0 = 48
      · have e1 : ¬ ¬ nI (S.getD a 0) = 48 := by rw [c1]; decide
        have e2 : nI (t - a) ≤ 1 := nI_le (b := 1) (by omega) (by decide)
        simp (disch := first | assumption | decide) only [s145_5, s145_6, s145_7, s145_10, s145_13, s145_14, s145_17, s145_18, s145_19, s145_21, s145_24, s145_25, s145_28, s145_29, s145_30, s145_31, s145_34, s145_35, s145_36, s145_37, rs_g K1, List.getElem?_cons_zero, List.getElem?_cons_succ, Option.bind_some, Option.toList_some, Option.toList_none, List.cons_append, List.nil_append, not_true_eq_false, if_false, if_true, if_neg e, al, if_neg e1, sb, if_pos e2]
      · have e1 : ¬ nI (S.getD a 0) = 48 := fun z => c1 ((nI_eq (b := 48) (by omega) (by decide)).mp z)
        simp (disch := first | assumption | decide) only [s145_5, s145_6, s145_7, s145_10, s145_13, s145_14, s145_17, s145_18, s145_19, s145_21, s145_24, s145_25, s145_28, s145_29, s145_30, s145_31, s145_34, s145_35, s145_36, s145_37, rs_g K1, List.getElem?_cons_zero, List.getElem?_cons_succ, Option.bind_some, Option.toList_some, Option.toList_none, List.cons_append, List.nil_append, not_true_eq_false, if_false, if_true, if_neg e, al, if_pos e1]
    rw [st]
    exact lp
  · rw [if_neg c]
    refine ⟨fun N z => (by cases z), fun _ => ⟨_, ng 0, ?_, K1⟩⟩
    by_cases c1 : a < t
    · have e : ¬ nI t ≤ nI a := nI_ge c1 (by omega)
      have al := rs_al K1 E (i := a) (by omega)
      have c2 : S.getD a 0 = 48 := by
        by_cases z : S.getD a 0 = 48
        · exact z
        · exact absurd ⟨c1, Or.inl z⟩ c
      have c3 : ¬ a + 1 = t := fun z => c ⟨c1, Or.inr z⟩
      have e1 : ¬ ¬ nI (S.getD a 0) = 48 := by rw [c2]; decide
      have sb : nI t - nI a = nI (t - a) := pk_sub (by omega)
      have e2 : ¬ nI (t - a) ≤ 1 := nI_ge (a := 1) (by omega) (by omega)
      simp (disch := first | assumption | decide) only [s145_5, s145_6, s145_7, s145_10, s145_13, s145_14, s145_17, s145_18, s145_19, s145_21, s145_24, s145_25, s145_28, s145_29, s145_30, s145_31, s145_34, s145_35, rs_g K1, List.getElem?_cons_zero, List.getElem?_cons_succ, Option.bind_some, Option.toList_some, Option.toList_none, List.cons_append, List.nil_append, not_true_eq_false, if_false, if_true, if_neg e, al, if_neg e1, sb, if_neg e2]
    · have e : nI t ≤ nI a := nI_le (by omega) (by omega)
      simp (disch := first | assumption | decide) only [s145_5, s145_6, s145_7, s145_10, s145_13, s145_14, s145_17, s145_18, s145_19, s145_21, s145_24, s145_25, s145_28, s145_29, s145_30, s145_31, s145_34, s145_35, rs_g K1, List.getElem?_cons_zero, List.getElem?_cons_succ, Option.bind_some, Option.toList_some, Option.toList_none, List.cons_append, List.nil_append, not_true_eq_false, if_false, if_true, if_pos e]
theorem y_readNumber {lo hi : Int64} (K : RS w0 A w S p fr to v M b q ca ls ns) (E : isSr w0 S) (hp : p ≤ S.length) : (∀ u, rdN S p = some u → lo ≤ u → u ≤ hi → ∃ w2, ex_call X 144 [.ref 32, .long lo, .long hi] w = some (some (.int 1), w2) ∧ RS w0 A w2 S (wT S p) (nI (wF S p)) (nI (wT S p)) u M b q ca ls ns) ∧ (¬ (∃ u, rdN S p = some u ∧ lo ≤ u ∧ u ≤ hi) → ∃ w2, ex_call X 144 [.ref 32, .long lo, .long hi] w = some (some (.int 0), w2) ∧ RF w0 A w2 (wF S p)) := by
  have hl := lt_len E
  have wb := w_b hp
  have rc := rs_rc K
  have n1 : ¬ (1 : Int32) = 0 := by decide
  have mu := y_must (X := X) K E hp
  by_cases cw : wF S p < wT S p
  · obtain ⟨w1, a1, K1⟩ := mu.1 cw
    have rc1 := rs_rc K1
    have al := rs_al K1 E (i := wF S p) (by omega)
    have hb := lt_b E (wF S p)
    -- the sign
    have hd : ex_call X 144 [.ref 32, .long lo, .long hi] w = ex_go X 144 30 [(0, .ref 32), (1, .long lo), (3, .long hi), (5, .int (if S.getD (wF S p) 0 = 45 then 1 else 0))] [] w1 := by
      show ex_go X 144 0 [(0, .ref 32), (1, .long lo), (3, .long hi)] [] w = _
      by_cases c : S.getD (wF S p) 0 = 45
      · have e : ¬ ¬ nI (S.getD (wF S p) 0) = 45 := by rw [c]; decide
        rw [if_pos c]
        simp (disch := first | assumption | decide) only [s144_0, s144_1, s144_4, s144_7, s144_8, s144_9, s144_10, s144_13, s144_14, s144_17, s144_18, s144_20, s144_23, s144_24, s144_27, s144_28, a1, List.getElem?_cons_zero, List.getElem?_cons_succ, Option.bind_some, Option.toList_some, Option.toList_none, List.cons_append, List.nil_append, not_true_eq_false, if_false, if_true, if_pos n1, rs_g K1, al, if_neg e]
      · have e : ¬ nI (S.getD (wF S p) 0) = 45 := fun z => c ((nI_eq (b := 45) (by omega) (by decide)).mp z)
        rw [if_neg c]
        simp (disch := first | assumption | decide) only [s144_0, s144_1, s144_4, s144_7, s144_8, s144_9, s144_10, s144_13, s144_14, s144_17, s144_18, s144_20, s144_23, s144_24, s144_27, s144_28, a1, List.getElem?_cons_zero, List.getElem?_cons_succ, Option.bind_some, Option.toList_some, Option.toList_none, List.cons_append, List.nil_append, not_true_eq_false, if_false, if_true, if_pos n1, rs_g K1, al, if_pos e]
    rw [hd]
    -- a word that is no number
    have bad : ∀ (w2 : ex_W) (v2 : Int64) (s : Int32), RS w0 A w2 S (wT S p) (nI (wF S p)) (nI (wT S p)) v2 M b q ca ls ns → ∃ w3, ex_go X 144 85 [(0, .ref 32)] [] w2 = some (some (.int 0), w3) ∧ RF w0 A w3 (wF S p) := by
      intro w2 v2 s K2
      have rc2 := rs_rc K2
      obtain ⟨w3, a3, F3⟩ := y_wrong (X := X) K2
      refine ⟨w3, ?_, F3⟩
      simp (disch := first | assumption | decide) only [s144_85, s144_86, s144_89, a3, List.getElem?_cons_zero, List.getElem?_cons_succ, Option.bind_some, Option.toList_some, Option.toList_none, List.cons_append, List.nil_append, not_true_eq_false, if_false, if_true]
    -- its range
    have rng : ∀ (w2 : ex_W) (u : Int64), RS w0 A w2 S (wT S p) (nI (wF S p)) (nI (wT S p)) u M b q ca ls ns → (lo ≤ u ∧ u ≤ hi → ex_go X 144 111 [(0, .ref 32), (1, .long lo), (3, .long hi)] [] w2 = some (some (.int 1), w2)) ∧ (¬ (lo ≤ u ∧ u ≤ hi) → ∃ w3, ex_go X 144 111 [(0, .ref 32), (1, .long lo), (3, .long hi)] [] w2 = some (some (.int 0), w3) ∧ RF w0 A w3 (wF S p)) := by
      intro w2 u K2
      have rc2 := rs_rc K2
      constructor
      · rintro ⟨h1, h2⟩
        have g1 : ¬ lg_cmp u lo < 0 := fun z => (lgc_lt.mp z) h1
        have g2 : lg_cmp u hi ≤ 0 := lgc_le.mpr h2
        simp (disch := first | assumption | decide) only [s144_111, s144_112, s144_115, s144_116, s144_117, s144_120, s144_121, s144_124, s144_125, s144_126, s144_129, s144_130, s144_133, s144_136, s144_137, s144_140, s144_141, rs_g K2, List.getElem?_cons_zero, List.getElem?_cons_succ, Option.bind_some, Option.toList_some, Option.toList_none, List.cons_append, List.nil_append, not_true_eq_false, if_false, if_true, if_neg g1, if_pos g2]
      · intro h
        obtain ⟨w3, a3, F3⟩ := y_wrong (X := X) K2
        refine ⟨w3, ?_, F3⟩
        by_cases h1 : lo ≤ u
        · have g1 : ¬ lg_cmp u lo < 0 := fun z => (lgc_lt.mp z) h1
          have g2 : ¬ lg_cmp u hi ≤ 0 := fun z => h ⟨h1, lgc_le.mp z⟩
          simp (disch := first | assumption | decide) only [s144_111, s144_112, s144_115, s144_116, s144_117, s144_120, s144_121, s144_124, s144_125, s144_126, s144_129, s144_130, s144_133, s144_136, s144_137, s144_140, s144_141, rs_g K2, List.getElem?_cons_zero, List.getElem?_cons_succ, Option.bind_some, Option.toList_some, Option.toList_none, List.cons_append, List.nil_append, not_true_eq_false, if_false, if_true, if_neg g1, if_neg g2, a3]
        · have g1 : lg_cmp u lo < 0 := lgc_lt.mpr h1
          simp (disch := first | assumption | decide) only [s144_111, s144_112, s144_115, s144_116, s144_117, s144_120, s144_121, s144_124, s144_125, s144_126, s144_129, s144_130, s144_133, s144_136, s144_137, s144_140, s144_141, rs_g K2, List.getElem?_cons_zero, List.getElem?_cons_succ, Option.bind_some, Option.toList_some, Option.toList_none, List.cons_append, List.nil_append, not_true_eq_false, if_false, if_true, if_pos g1, a3]
    unfold rdN
    by_cases c : S.getD (wF S p) 0 = 45
    · rw [if_pos c, if_pos c]
      have dg := y_digits (X := X) (a := wF S p + 1) (t := wT S p) K1 E wb.2.2.1 (by omega)
      cases hN : numW S (wF S p + 1) (wT S p) with
      | none =>
        obtain ⟨w2, v2, a2, K2⟩ := dg.2 (fun ⟨N, z, _⟩ => by rw [hN] at z; cases z)
        obtain ⟨w3, a3, F3⟩ := bad w2 v2 1 K2
        refine ⟨fun u z => (by cases z), fun _ => ⟨w3, ?_, F3⟩⟩
        simp (disch := first | assumption | decide) only [s144_30, s144_31, s144_33, s144_36, s144_37, s144_40, s144_41, s144_42, s144_45, s144_46, s144_49, s144_52, if_neg n1, rs_g K1, List.getElem?_cons_zero, List.getElem?_cons_succ, Option.bind_some, Option.toList_some, Option.toList_none, List.cons_append, List.nil_append, not_true_eq_false, if_false, if_true, nI_1, a2]
        exact a3
      | some N =>
        by_cases cN : N ≤ 2 ^ 63
        · obtain ⟨w2, a2, K2⟩ := dg.1 N hN cN
          by_cases c0 : N = 0
          · have e0 : lg_cmp (ng N) 0 = 0 := (lg_cmp_eq _ 0).mpr (by rw [c0]; rfl)
            obtain ⟨w3, a3, F3⟩ := bad w2 (ng N) 1 K2
            have er : (match some N with | some N => if N = 0 ∨ 2 ^ 63 < N then none else some (ng N) | none => none) = (none : Option Int64) := if_pos (Or.inl c0)
            refine ⟨fun u z => ?_, fun _ => ⟨w3, ?_, F3⟩⟩
            · have z : (if N = 0 ∨ 2 ^ 63 < N then none else some (ng N)) = some u := z
              rw [if_pos (Or.inl c0)] at z
              cases z
            · simp (disch := first | assumption | decide) only [s144_30, s144_31, s144_33, s144_36, s144_37, s144_40, s144_41, s144_42, s144_45, s144_46, s144_49, s144_52, s144_55, s144_57, s144_60, s144_61, s144_64, s144_65, s144_66, if_neg n1, rs_g K1, List.getElem?_cons_zero, List.getElem?_cons_succ, Option.bind_some, Option.toList_some, Option.toList_none, List.cons_append, List.nil_append, not_true_eq_false, if_false, if_true, nI_1, a2, rs_g K2, e0]
              exact a3
          · have e0 : ¬ lg_cmp (ng N) 0 = 0 := fun y => by
              have := (lg_cmp_eq _ 0).mp y
              rw [l0_i, ng_toInt cN] at this
              omega
            have K3 := rs_set (p2 := wT S p) (fr2 := nI (wF S p)) (to2 := nI (wT S p)) (v2 := ng N) (b2 := b) (q2 := q) (ca2 := ca) K2
            have rg := rng _ (ng N) K3
            have st : ex_go X 144 30 [(0, .ref 32), (1, .long lo), (3, .long hi), (5, .int 1)] [] w1 = ex_go X 144 111 [(0, .ref 32), (1, .long lo), (3, .long hi)] [] (w2.set 32 (rd A (nI M.length) (nI S.length) (nI (wT S p)) (nI (wF S p)) (nI (wT S p)) (-1) (nI b) (nI q) (nI ca) (nI ls.length) (nI ns.length) (ng N))) := by
              simp (disch := first | assumption | decide) only [s144_30, s144_31, s144_33, s144_36, s144_37, s144_40, s144_41, s144_42, s144_45, s144_46, s144_49, s144_52, s144_55, s144_57, s144_60, s144_61, s144_64, s144_65, s144_66, s144_69, s144_71, s144_74, s144_75, s144_78, s144_81, s144_82, s144_85, s144_86, s144_89, s144_90, s144_91, s144_93, s144_96, s144_97, s144_100, s144_103, s144_104, s144_107, s144_108, if_neg n1, if_pos n1, rs_g K1, List.getElem?_cons_zero, List.getElem?_cons_succ, Option.bind_some, Option.toList_some, Option.toList_none, List.cons_append, List.nil_append, not_true_eq_false, if_false, if_true, nI_1, a2, rs_g K2, if_neg e0, rs_p19 K2]
            rw [st]
            refine ⟨fun u z h1 h2 => ?_, fun h => rg.2 (fun hh => h ⟨ng N, if_neg (by omega), hh⟩)⟩
            have z : (if N = 0 ∨ 2 ^ 63 < N then none else some (ng N)) = some u := z
            rw [if_neg (by omega)] at z
            cases z
            exact ⟨_, rg.1 ⟨h1, h2⟩, K3⟩
        · obtain ⟨w2, v2, a2, K2⟩ := dg.2 (fun ⟨N2, z, h⟩ => by rw [hN] at z; cases z; exact cN h)
          obtain ⟨w3, a3, F3⟩ := bad w2 v2 1 K2
          refine ⟨fun u z => ?_, fun _ => ⟨w3, ?_, F3⟩⟩
          · have z : (if N = 0 ∨ 2 ^ 63 < N then none else some (ng N)) = some u := z
            rw [if_pos (by omega)] at z
            cases z
          · simp (disch := first | assumption | decide) only [s144_30, s144_31, s144_33, s144_36, s144_37, s144_40, s144_41, s144_42, s144_45, s144_46, s144_49, s144_52, if_neg n1, rs_g K1, List.getElem?_cons_zero, List.getElem?_cons_succ, Option.bind_some, Option.toList_some, Option.toList_none, List.cons_append, List.nil_append, not_true_eq_false, if_false, if_true, nI_1, a2]
            exact a3
    · rw [if_neg c, if_neg c]
      have dg := y_digits (X := X) (a := wF S p) (t := wT S p) K1 E wb.2.2.1 (by omega)
      cases hN : numW S (wF S p) (wT S p) with
      | none =>
        obtain ⟨w2, v2, a2, K2⟩ := dg.2 (fun ⟨N, z, _⟩ => by rw [hN] at z; cases z)
        obtain ⟨w3, a3, F3⟩ := bad w2 v2 0 K2
        refine ⟨fun u z => (by cases z), fun _ => ⟨w3, ?_, F3⟩⟩
        simp (disch := first | assumption | decide) only [s144_30, s144_31, s144_33, s144_36, s144_37, s144_40, s144_41, s144_42, s144_45, s144_46, s144_49, s144_52, rs_g K1, List.getElem?_cons_zero, List.getElem?_cons_succ, Option.bind_some, Option.toList_some, Option.toList_none, List.cons_append, List.nil_append, not_true_eq_false, if_false, if_true, a2]
        exact a3
      | some N =>
        by_cases cN : N ≤ 2 ^ 63
        · obtain ⟨w2, a2, K2⟩ := dg.1 N hN cN
          have em : (-9223372036854775807 : Int64).toInt = -9223372036854775807 := rfl
          by_cases c0 : N < 2 ^ 63
          · have g0 : 0 ≤ lg_cmp (ng N) (-9223372036854775807) := (lg_cmp_ge _ _).mpr (by
              rw [Int64.le_iff_toInt_le, em, ng_toInt cN]
              omega)
            have K3 := rs_set (p2 := wT S p) (fr2 := nI (wF S p)) (to2 := nI (wT S p)) (v2 := -(ng N)) (b2 := b) (q2 := q) (ca2 := ca) K2
            have rg := rng _ (-(ng N)) K3
            have st : ex_go X 144 30 [(0, .ref 32), (1, .long lo), (3, .long hi), (5, .int 0)] [] w1 = ex_go X 144 111 [(0, .ref 32), (1, .long lo), (3, .long hi)] [] (w2.set 32 (rd A (nI M.length) (nI S.length) (nI (wT S p)) (nI (wF S p)) (nI (wT S p)) (-1) (nI b) (nI q) (nI ca) (nI ls.length) (nI ns.length) (-(ng N)))) := by
              simp (disch := first | assumption | decide) only [s144_30, s144_31, s144_33, s144_36, s144_37, s144_40, s144_41, s144_42, s144_45, s144_46, s144_49, s144_52, s144_55, s144_57, s144_60, s144_61, s144_64, s144_65, s144_66, s144_69, s144_71, s144_74, s144_75, s144_78, s144_81, s144_82, s144_85, s144_86, s144_89, s144_90, s144_91, s144_93, s144_96, s144_97, s144_100, s144_103, s144_104, s144_107, s144_108, if_neg n1, rs_g K1, List.getElem?_cons_zero, List.getElem?_cons_succ, Option.bind_some, Option.toList_some, Option.toList_none, List.cons_append, List.nil_append, not_true_eq_false, if_false, if_true, a2, rs_g K2, if_pos g0, rs_p19 K2]
            rw [st]
            refine ⟨fun u z h1 h2 => ?_, fun h => rg.2 (fun hh => h ⟨-(ng N), if_pos c0, hh⟩)⟩
            have z : (if N < 2 ^ 63 then some (-(ng N)) else none) = some u := z
            rw [if_pos c0] at z
            cases z
            exact ⟨_, rg.1 ⟨h1, h2⟩, K3⟩
          · have g0 : ¬ 0 ≤ lg_cmp (ng N) (-9223372036854775807) := fun z => by
              have := (lg_cmp_ge _ _).mp z
              rw [Int64.le_iff_toInt_le, em, ng_toInt cN] at this
              omega
            obtain ⟨w3, a3, F3⟩ := bad w2 (ng N) 0 K2
            refine ⟨fun u z => ?_, fun _ => ⟨w3, ?_, F3⟩⟩
            · have z : (if N < 2 ^ 63 then some (-(ng N)) else none) = some u := z
              rw [if_neg c0] at z
              cases z
            · simp (disch := first | assumption | decide) only [s144_30, s144_31, s144_33, s144_36, s144_37, s144_40, s144_41, s144_42, s144_45, s144_46, s144_49, s144_52, s144_55, s144_57, s144_60, s144_61, s144_64, s144_65, s144_66, s144_69, s144_71, s144_74, s144_75, s144_78, s144_81, s144_82, if_neg n1, rs_g K1, List.getElem?_cons_zero, List.getElem?_cons_succ, Option.bind_some, Option.toList_some, Option.toList_none, List.cons_append, List.nil_append, not_true_eq_false, if_false, if_true, a2, rs_g K2, if_neg g0]
              exact a3
        · obtain ⟨w2, v2, a2, K2⟩ := dg.2 (fun ⟨N2, z, h⟩ => by rw [hN] at z; cases z; exact cN h)
          obtain ⟨w3, a3, F3⟩ := bad w2 v2 0 K2
          refine ⟨fun u z => ?_, fun _ => ⟨w3, ?_, F3⟩⟩
          · have z : (if N < 2 ^ 63 then some (-(ng N)) else none) = some u := z
            rw [if_neg (by omega)] at z
            cases z
          · simp (disch := first | assumption | decide) only [s144_30, s144_31, s144_33, s144_36, s144_37, s144_40, s144_41, s144_42, s144_45, s144_46, s144_49, s144_52, rs_g K1, List.getElem?_cons_zero, List.getElem?_cons_succ, Option.bind_some, Option.toList_some, Option.toList_none, List.cons_append, List.nil_append, not_true_eq_false, if_false, if_true, a2]
            exact a3
  · obtain ⟨w1, a1, F1⟩ := mu.2 cw
    have e0 := getD_end hp cw
    have er : rdN S p = none := by
      unfold rdN
      rw [e0, if_neg (by decide), numW_no (by rw [e0]; omega)]
    refine ⟨fun u z => (by rw [er] at z; cases z), fun _ => ⟨w1, ?_, F1⟩⟩
    show ex_go X 144 0 [(0, .ref 32), (1, .long lo), (3, .long hi)] [] w = _
    simp (disch := first | assumption | decide) only [s144_0, s144_1, s144_4, s144_7, s144_8, a1, List.getElem?_cons_zero, List.getElem?_cons_succ, Option.bind_some, Option.toList_some, Option.toList_none, List.cons_append, List.nil_append, not_true_eq_false, if_false, if_true]
end REF2
