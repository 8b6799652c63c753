/-! the other object reads -/
def rd (A : Nat → Int32) (mn en pl fr to ft tot pt ca ln nm : Int32) (v : Int64) : ex_C := .inl (8, [.ref 33, .int (A 1), .ref 34, .int mn, .ref 35, .int (A 5), .ref 36, .int (A 7), .ref 37, .int (A 9), .ref 38, .ref 39, .ref 40, .ref 41, .int en, .int pl, .int fr, .int to, .int ft, .long v, .int tot, .int pt, .int ca, .ref 42, .int ln, .ref 43, .ref 44, .ref 45, .int nm])
def nm1 (n : Nat × Nat × Nat) : Nat := if n.1 ≤ 1000 then n.1 else 1000
def isRl (w : ex_W) (ls : List Nat) (ns : NM) : Prop := ∃ a b c d : List Int32, w[42]? = some (.inr (0, a)) ∧ a.length = 100 ∧ holds a ls ∧ w[43]? = some (.inr (0, b)) ∧ b.length = 60 ∧ holds b (ns.map (fun n => n.2.2)) ∧ w[44]? = some (.inr (0, c)) ∧ c.length = 60 ∧ holds c (ns.map (fun n => n.2.1)) ∧ w[45]? = some (.inr (0, d)) ∧ d.length = 60 ∧ holds d (ns.map nm1)
def rFr (w0 w : ex_W) : Prop := w.length = w0.length ∧ ∀ j, j < 32 ∨ j = 33 ∨ (34 < j ∧ j < 42) ∨ 45 < j → w[j]? = w0[j]?
/-- it reads, and all is well so far -/
def RS (w0 : ex_W) (A : Nat → Int32) (w : ex_W) (S : List Nat) (p : Nat) (fr to : Int32) (v : Int64) (M : List Nat) (b q ca : Nat) (ls : List Nat) (ns : NM) : Prop := rFr w0 w ∧ w[32]? = some (rd A (nI M.length) (nI S.length) (nI p) fr to (-1) (nI b) (nI q) (nI ca) (nI ls.length) (nI ns.length) v) ∧ (∃ ms : List Int32, w[34]? = some (.inr (0, ms)) ∧ ms.length = 140 ∧ holds ms M) ∧ isRl w ls ns
/-- it stopped at f -/
def RF (w0 : ex_W) (A : Nat → Int32) (w : ex_W) (f : Nat) : Prop := rFr w0 w ∧ (∃ mn en pl fr to tot pt ca v ls ns, w[32]? = some (rd A mn en pl fr to (nI f) tot pt ca (nI ls.length) (nI ns.length) v) ∧ isRl w ls ns) ∧ ∃ ms : List Int32, w[34]? = some (.inr (0, ms)) ∧ ms.length = 140
def isSr (w0 : ex_W) (S : List Nat) : Prop := isLt w0 41 S
theorem rl_o {w w2 : ex_W} {ls : List Nat} {ns : NM} (h : isRl w ls ns) (e : ∀ j, 42 ≤ j → j ≤ 45 → w2[j]? = w[j]?) : isRl w2 ls ns := by
  obtain ⟨a, b, c, d, h2, h3, h4, h5, h6, h7, h8, h9, h10, h11, h12, h13⟩ := h
  exact ⟨a, b, c, d, (e 42 (by decide) (by decide)).trans h2, h3, h4, (e 43 (by decide) (by decide)).trans h5, h6, h7, (e 44 (by decide) (by decide)).trans h8, h9, h10, (e 45 (by decide) (by decide)).trans h11, h12, h13⟩
section REF
variable {X : Option (List Int32)} {w0 w : ex_W} {A : Nat → Int32} {S : List Nat} {p : Nat} {fr to : Int32} {v : Int64} {M : List Nat} {b q ca : Nat} {ls : List Nat} {ns : NM}
theorem rs_T (K : RS w0 A w S p fr to v M b q ca ls ns) (E : isSr w0 S) : isLt w 41 S := lt_o E (K.1.2 41 (by decide))
theorem rs_al {i : Nat} (K : RS w0 A w S p fr to v M b q ca ls ns) (E : isSr w0 S) (hi : i < S.length) : ex_al w 41 0 (nI i) = some (nI (S.getD i 0)) := lt_al (rs_T K E) hi
theorem rs_rc (K : RS w0 A w S p fr to v M b q ca ls ns) : ex_rc w 32 8 = true := ex_rc_o K.2.1 (by decide) (by decide)
theorem rs_g (K : RS w0 A w S p fr to v M b q ca ls ns) (k : Nat) : ex_gf w 32 8 k = [Value.ref 33, .int (A 1), .ref 34, .int (nI M.length), .ref 35, .int (A 5), .ref 36, .int (A 7), .ref 37, .int (A 9), .ref 38, .ref 39, .ref 40, .ref 41, .int (nI S.length), .int (nI p), .int fr, .int to, .int (-1), .long v, .int (nI b), .int (nI q), .int (nI ca), .ref 42, .int (nI ls.length), .ref 43, .ref 44, .ref 45, .int (nI ns.length)][k]? := ex_gf_i K.2.1
/-- its own fields have changed -/
theorem rs_set {p2 : Nat} {fr2 to2 : Int32} {v2 : Int64} {b2 q2 ca2 : Nat} (K : RS w0 A w S p fr to v M b q ca ls ns) : RS w0 A (w.set 32 (rd A (nI M.length) (nI S.length) (nI p2) fr2 to2 (-1) (nI b2) (nI q2) (nI ca2) (nI ls.length) (nI ns.length) v2)) S p2 fr2 to2 v2 M b2 q2 ca2 ls ns := by
  obtain ⟨⟨k1, k2⟩, k3, ⟨ms, m1, m2⟩, k5⟩ := K
  have o : ∀ j, j ≠ 32 → (w.set 32 (rd A (nI M.length) (nI S.length) (nI p2) fr2 to2 (-1) (nI b2) (nI q2) (nI ca2) (nI ls.length) (nI ns.length) v2))[j]? = w[j]? := fun j h => List.getElem?_set_ne (Ne.symm h)
  exact ⟨⟨by rw [List.length_set]; exact k1, fun j hj => (o j (by omega)).trans (k2 j hj)⟩, ex_set_s k3, ⟨ms, (o 34 (by decide)).trans m1, m2⟩, rl_o k5 (fun j h1 h2 => o j (by omega))⟩
theorem rs_f {f : Nat} (K : RS w0 A w S p fr to v M b q ca ls ns) : RF w0 A (w.set 32 (rd A (nI M.length) (nI S.length) (nI p) fr to (nI f) (nI b) (nI q) (nI ca) (nI ls.length) (nI ns.length) v)) f := by
  obtain ⟨⟨k1, k2⟩, k3, ⟨ms, m1, m2, _⟩, k5⟩ := K
  have o : ∀ j, j ≠ 32 → (w.set 32 (rd A (nI M.length) (nI S.length) (nI p) fr to (nI f) (nI b) (nI q) (nI ca) (nI ls.length) (nI ns.length) v))[j]? = w[j]? := fun j h => List.getElem?_set_ne (Ne.symm h)
  exact ⟨⟨by rw [List.length_set]; exact k1, fun j hj => (o j (by omega)).trans (k2 j hj)⟩, ⟨_, _, _, _, _, _, _, _, _, ls, ns, ex_set_s k3, rl_o k5 (fun j h1 h2 => o j (by omega))⟩, ms, (o 34 (by decide)).trans m1, m2⟩
theorem rs_p15 {x : Nat} (K : RS w0 A w S p fr to v M b q ca ls ns) : ex_pf w 32 8 15 (.int (nI x)) = some (w.set 32 (rd A (nI M.length) (nI S.length) (nI x) fr to (-1) (nI b) (nI q) (nI ca) (nI ls.length) (nI ns.length) v)) := ex_pf_i K.2.1 (Nat.le_of_ble_eq_true rfl)
theorem rs_p16 {x : Int32} (K : RS w0 A w S p fr to v M b q ca ls ns) : ex_pf w 32 8 16 (.int x) = some (w.set 32 (rd A (nI M.length) (nI S.length) (nI p) x to (-1) (nI b) (nI q) (nI ca) (nI ls.length) (nI ns.length) v)) := ex_pf_i K.2.1 (Nat.le_of_ble_eq_true rfl)
theorem rs_p17 {x : Int32} (K : RS w0 A w S p fr to v M b q ca ls ns) : ex_pf w 32 8 17 (.int x) = some (w.set 32 (rd A (nI M.length) (nI S.length) (nI p) fr x (-1) (nI b) (nI q) (nI ca) (nI ls.length) (nI ns.length) v)) := ex_pf_i K.2.1 (Nat.le_of_ble_eq_true rfl)
theorem rs_p18 {x : Int32} (K : RS w0 A w S p fr to v M b q ca ls ns) : ex_pf w 32 8 18 (.int x) = some (w.set 32 (rd A (nI M.length) (nI S.length) (nI p) fr to x (nI b) (nI q) (nI ca) (nI ls.length) (nI ns.length) v)) := ex_pf_i K.2.1 (Nat.le_of_ble_eq_true rfl)
theorem rs_p19 {x : Int64} (K : RS w0 A w S p fr to v M b q ca ls ns) : ex_pf w 32 8 19 (.long x) = some (w.set 32 (rd A (nI M.length) (nI S.length) (nI p) fr to (-1) (nI b) (nI q) (nI ca) (nI ls.length) (nI ns.length) x)) := ex_pf_i K.2.1 (Nat.le_of_ble_eq_true rfl)
theorem rs_p20 {x : Nat} (K : RS w0 A w S p fr to v M b q ca ls ns) : ex_pf w 32 8 20 (.int (nI x)) = some (w.set 32 (rd A (nI M.length) (nI S.length) (nI p) fr to (-1) (nI x) (nI q) (nI ca) (nI ls.length) (nI ns.length) v)) := ex_pf_i K.2.1 (Nat.le_of_ble_eq_true rfl)
theorem rs_p21 {x : Nat} (K : RS w0 A w S p fr to v M b q ca ls ns) : ex_pf w 32 8 21 (.int (nI x)) = some (w.set 32 (rd A (nI M.length) (nI S.length) (nI p) fr to (-1) (nI b) (nI x) (nI ca) (nI ls.length) (nI ns.length) v)) := ex_pf_i K.2.1 (Nat.le_of_ble_eq_true rfl)
theorem rs_p22 {x : Nat} (K : RS w0 A w S p fr to v M b q ca ls ns) : ex_pf w 32 8 22 (.int (nI x)) = some (w.set 32 (rd A (nI M.length) (nI S.length) (nI p) fr to (-1) (nI b) (nI q) (nI x) (nI ls.length) (nI ns.length) v)) := ex_pf_i K.2.1 (Nat.le_of_ble_eq_true rfl)
theorem y_isGap {i : Nat} (K : RS w0 A w S p fr to v M b q ca ls ns) (E : isSr w0 S) (hi : i < S.length) : ex_call X 140 [.ref 32, .int (nI i)] w = some (some (.int (if gapC (S.getD i 0) then 1 else 0)), w) := by
  have al := rs_al K E hi
  have hb := lt_b E i
  show ex_go X 140 0 [(0, .ref 32), (1, .int (nI i))] [] w = _
  by_cases c1 : S.getD i 0 = 32
  · have e1 : nI (S.getD i 0) = 32 := by rw [c1]; rfl
    rw [if_pos (Or.inl c1)]
    simp (disch := first | assumption | decide) only [s140_0, s140_1, s140_4, s140_5, s140_6, s140_8, s140_11, s140_12, s140_15, s140_16, s140_17, s140_19, s140_22, s140_23, s140_26, s140_27, rs_g K, List.getElem?_cons_zero, List.getElem?_cons_succ, Option.bind_some, Option.toList_some, Option.toList_none, List.cons_append, List.nil_append, not_true_eq_false, if_false, if_true, al, if_pos e1]
  · have e1 : ¬ nI (S.getD i 0) = 32 := fun z => c1 ((nI_eq (b := 32) (by omega) (by decide)).mp z)
    by_cases c2 : S.getD i 0 = 10
    · have e2 : ¬ ¬ nI (S.getD i 0) = 10 := by rw [c2]; decide
      rw [if_pos (Or.inr c2)]
      simp (disch := first | assumption | decide) only [s140_0, s140_1, s140_4, s140_5, s140_6, s140_8, s140_11, s140_12, s140_15, s140_16, s140_17, s140_19, s140_22, s140_23, s140_26, s140_27, rs_g K, List.getElem?_cons_zero, List.getElem?_cons_succ, Option.bind_some, Option.toList_some, Option.toList_none, List.cons_append, List.nil_append, not_true_eq_false, if_false, if_true, al, if_neg e1, if_neg e2]
    · have e2 : ¬ nI (S.getD i 0) = 10 := fun z => c2 ((nI_eq (b := 10) (by omega) (by decide)).mp z)
      rw [if_neg (fun z => by rcases z with z | z; exact c1 z; exact c2 z)]
      simp (disch := first | assumption | decide) only [s140_0, s140_1, s140_4, s140_5, s140_6, s140_8, s140_11, s140_12, s140_15, s140_16, s140_17, s140_19, s140_22, s140_23, s140_26, s140_27, rs_g K, List.getElem?_cons_zero, List.getElem?_cons_succ, Option.bind_some, Option.toList_some, Option.toList_none, List.cons_append, List.nil_append, not_true_eq_false, if_false, if_true, al, if_neg e1, if_pos e2]
theorem y_nextG (E : isSr w0 S) : ∀ (k p : Nat) (w : ex_W), p + k = S.length → RS w0 A w S p fr to v M b q ca ls ns → ∃ w2, ex_go X 139 0 [(0, .ref 32)] [] w = ex_go X 139 35 [(0, .ref 32)] [] w2 ∧ RS w0 A w2 S (skG S k p) fr to v M b q ca ls ns := by
  have hl := lt_len E
  have n1 : ¬ (1 : Int32) = 0 := by decide
  intro k
  induction k with
  | zero =>
    intro p w hp K
    have e : nI S.length ≤ nI p := nI_le (by omega) (by omega)
    refine ⟨w, ?_, by rw [skG]; exact K⟩
    simp (disch := first | assumption | decide) only [s139_0, s139_1, s139_4, s139_5, s139_8, rs_g K, List.getElem?_cons_zero, List.getElem?_cons_succ, Option.bind_some, Option.toList_some, Option.toList_none, List.cons_append, List.nil_append, not_true_eq_false, if_false, if_true, if_pos e]
  | succ k ih =>
    intro p w hp K
    have e : ¬ nI S.length ≤ nI p := nI_ge (by omega) (by omega)
    have rc := rs_rc K
    have ig := y_isGap (X := X) (i := p) K E (by omega)
    rw [skG]
    by_cases c : gapC (S.getD p 0)
    · rw [if_pos c] at ig
      rw [if_pos c]
      have K2 := rs_set (p2 := p + 1) (fr2 := fr) (to2 := to) (v2 := v) (b2 := b) (q2 := q) (ca2 := ca) K
      obtain ⟨w3, a3, K3⟩ := ih (p + 1) _ (by omega) K2
      refine ⟨w3, ?_, K3⟩
      rw [s139_0]
      simp (disch := first | assumption | decide) only [s139_1, s139_4, s139_5, s139_8, s139_11, s139_12, s139_13, s139_16, s139_19, s139_22, s139_23, s139_24, s139_27, s139_28, s139_29, s139_32, rs_g K, List.getElem?_cons_zero, List.getElem?_cons_succ, Option.bind_some, Option.toList_some, Option.toList_none, List.cons_append, List.nil_append, not_true_eq_false, if_false, if_true, if_neg e, ig, if_neg n1, nI_1, rs_p15 K]
      exact a3
    · rw [if_neg c] at ig
      rw [if_neg c]
      refine ⟨w, ?_, K⟩
      simp (disch := first | assumption | decide) only [s139_0, s139_1, s139_4, s139_5, s139_8, s139_11, s139_12, s139_13, s139_16, s139_19, s139_22, s139_23, s139_24, s139_27, s139_28, s139_29, s139_32, rs_g K, List.getElem?_cons_zero, List.getElem?_cons_succ, Option.bind_some, Option.toList_some, Option.toList_none, List.cons_append, List.nil_append, not_true_eq_false, if_false, if_true, if_neg e, ig]
theorem y_nextW (E : isSr w0 S) : ∀ (k p : Nat) (w : ex_W), p + k = S.length → RS w0 A w S p fr to v M b q ca ls ns → ∃ w2, ex_go X 139 43 [(0, .ref 32)] [] w = ex_go X 139 78 [(0, .ref 32)] [] w2 ∧ RS w0 A w2 S (skW S k p) fr to v M b q ca ls ns := by
  have hl := lt_len E
  have n1 : ¬ (1 : Int32) = 0 := by decide
  intro k
  induction k with
  | zero =>
    intro p w hp K
    have e : nI S.length ≤ nI p := nI_le (by omega) (by omega)
    refine ⟨w, ?_, by rw [skW]; exact K⟩
    simp (disch := first | assumption | decide) only [s139_43, s139_44, s139_47, s139_48, s139_51, rs_g K, List.getElem?_cons_zero, List.getElem?_cons_succ, Option.bind_some, Option.toList_some, Option.toList_none, List.cons_append, List.nil_append, not_true_eq_false, if_false, if_true, if_pos e]
  | succ k ih =>
    intro p w hp K
    have e : ¬ nI S.length ≤ nI p := nI_ge (by omega) (by omega)
    have rc := rs_rc K
    have ig := y_isGap (X := X) (i := p) K E (by omega)
    rw [skW]
    by_cases c : gapC (S.getD p 0)
    · rw [if_pos c] at ig
      rw [if_pos c]
      refine ⟨w, ?_, K⟩
      simp (disch := first | assumption | decide) only [s139_43, s139_44, s139_47, s139_48, s139_51, s139_54, s139_55, s139_56, s139_59, s139_62, s139_65, s139_66, s139_67, s139_70, s139_71, s139_72, s139_75, rs_g K, List.getElem?_cons_zero, List.getElem?_cons_succ, Option.bind_some, Option.toList_some, Option.toList_none, List.cons_append, List.nil_append, not_true_eq_false, if_false, if_true, if_neg e, ig, if_pos n1]
    · rw [if_neg c] at ig
      rw [if_neg c]
      have K2 := rs_set (p2 := p + 1) (fr2 := fr) (to2 := to) (v2 := v) (b2 := b) (q2 := q) (ca2 := ca) K
      obtain ⟨w3, a3, K3⟩ := ih (p + 1) _ (by omega) K2
      refine ⟨w3, ?_, K3⟩
      rw [s139_43]
      simp (disch := first | assumption | decide) only [s139_44, s139_47, s139_48, s139_51, s139_54, s139_55, s139_56, s139_59, s139_62, s139_65, s139_66, s139_67, s139_70, s139_71, s139_72, s139_75, rs_g K, List.getElem?_cons_zero, List.getElem?_cons_succ, Option.bind_some, Option.toList_some, Option.toList_none, List.cons_append, List.nil_append, not_true_eq_false, if_false, if_true, if_neg e, ig, nI_1, rs_p15 K]
      exact a3
/-- the next word is in hand -/
theorem y_next (K : RS w0 A w S p fr to v M b q ca ls ns) (E : isSr w0 S) (hp : p ≤ S.length) : ∃ w2, ex_call X 139 [.ref 32] w = some (some (.int (if wF S p < wT S p then 1 else 0)), w2) ∧ RS w0 A w2 S (wT S p) (nI (wF S p)) (nI (wT S p)) v M b q ca ls ns := by
  have wb := w_b hp
  have hl := lt_len E
  obtain ⟨w1, a1, K1⟩ := y_nextG (X := X) E (S.length - p) p w (by omega) K
  have K1 : RS w0 A w1 S (wF S p) fr to v M b q ca ls ns := K1
  have K2 := rs_set (p2 := wF S p) (fr2 := nI (wF S p)) (to2 := to) (v2 := v) (b2 := b) (q2 := q) (ca2 := ca) K1
  obtain ⟨w3, a3, K3⟩ := y_nextW (X := X) E (S.length - wF S p) (wF S p) _ (by omega) K2
  have K3 : RS w0 A w3 S (wT S p) (nI (wF S p)) to v M b q ca ls ns := K3
  have K4 := rs_set (p2 := wT S p) (fr2 := nI (wF S p)) (to2 := nI (wT S p)) (v2 := v) (b2 := b) (q2 := q) (ca2 := ca) K3
  refine ⟨_, ?_, K4⟩
  show ex_go X 139 0 [(0, .ref 32)] [] w = _
  rw [a1]
  simp (disch := first | assumption | decide) only [s139_35, s139_36, s139_37, s139_40, rs_g K1, List.getElem?_cons_zero, List.getElem?_cons_succ, Option.bind_some, Option.toList_some, Option.toList_none, List.cons_append, List.nil_append, not_true_eq_false, if_false, if_true, rs_p16 K1]
  rw [a3]
  by_cases c : wF S p < wT S p
  · have e : ¬ nI (wT S p) ≤ nI (wF S p) := nI_ge c (by omega)
    rw [if_pos c]
    simp (disch := first | assumption | decide) only [s139_78, s139_79, s139_80, s139_83, s139_86, s139_87, s139_90, s139_91, s139_94, s139_97, s139_98, s139_101, s139_102, rs_g K3, List.getElem?_cons_zero, List.getElem?_cons_succ, Option.bind_some, Option.toList_some, Option.toList_none, List.cons_append, List.nil_append, not_true_eq_false, if_false, if_true, rs_p17 K3, rs_g K4, if_neg e]
  · have e : nI (wT S p) ≤ nI (wF S p) := nI_le (by omega) (by omega)
    rw [if_neg c]
    simp (disch := first | assumption | decide) only [s139_78, s139_79, s139_80, s139_83, s139_86, s139_87, s139_90, s139_91, s139_94, s139_97, s139_98, s139_101, s139_102, rs_g K3, List.getElem?_cons_zero, List.getElem?_cons_succ, Option.bind_some, Option.toList_some, Option.toList_none, List.cons_append, List.nil_append, not_true_eq_false, if_false, if_true, rs_p17 K3, rs_g K4, if_pos e]
theorem y_must (K : RS w0 A w S p fr to v M b q ca ls ns) (E : isSr w0 S) (hp : p ≤ S.length) : (wF S p < wT S p → ∃ w2, ex_call X 138 [.ref 32] w = some (some (.int 1), w2) ∧ RS w0 A w2 S (wT S p) (nI (wF S p)) (nI (wT S p)) v M b q ca ls ns) ∧ (¬ wF S p < wT S p → ∃ w2, ex_call X 138 [.ref 32] w = some (some (.int 0), w2) ∧ RF w0 A w2 (wF S p)) := by
  have wb := w_b hp
  have hl := lt_len E
  have rc := rs_rc K
  have m1 : (-1 : Int32) < 0 := by decide
  have m2 : ¬ 0 ≤ (-1 : Int32) := by decide
  have n1 : ¬ (1 : Int32) = 0 := by decide
  obtain ⟨w2, a2, K2⟩ := y_next (X := X) K E hp
  constructor
  · intro c
    rw [if_pos c] at a2
    refine ⟨w2, ?_, K2⟩
    show ex_go X 138 0 [(0, .ref 32)] [] w = _
    simp (disch := first | assumption | decide) only [s138_0, s138_1, s138_4, s138_7, s138_8, s138_9, s138_10, s138_13, s138_16, s138_17, s138_18, s138_21, s138_24, s138_25, s138_28, s138_31, s138_32, s138_35, s138_36, rs_g K, List.getElem?_cons_zero, List.getElem?_cons_succ, Option.bind_some, Option.toList_some, Option.toList_none, List.cons_append, List.nil_append, not_true_eq_false, if_false, if_true, if_pos m1, a2, if_pos n1, rs_g K2, if_neg m2]
  · intro c
    rw [if_neg c] at a2
    have ef : S.length = wF S p := by
      by_cases h : wF S p < S.length
      · exact absurd (wb.2.2.2.1 h) c
      · omega
    have F := rs_f (f := wF S p) K2
    have g3 : 0 ≤ nI (wF S p) := nI_le (a := 0) (Nat.zero_le _) (by omega)
    have gf : ex_gf (w2.set 32 (rd A (nI M.length) (nI S.length) (nI (wT S p)) (nI (wF S p)) (nI (wT S p)) (nI (wF S p)) (nI b) (nI q) (nI ca) (nI ls.length) (nI ns.length) v)) 32 8 18 = some (.int (nI (wF S p))) := ex_gf_i (ex_set_s K2.2.1)
    refine ⟨_, ?_, F⟩
    show ex_go X 138 0 [(0, .ref 32)] [] w = _
    have g14 : ex_gf w2 32 8 14 = some (.int (nI (wF S p))) := by
      rw [rs_g K2, ef]
      rfl
    simp (disch := first | assumption | decide) only [s138_0, s138_1, s138_4, s138_7, s138_8, s138_9, s138_10, s138_13, s138_16, s138_17, s138_18, s138_21, s138_24, s138_25, s138_28, s138_31, s138_32, s138_35, s138_36, rs_g K 18, List.getElem?_cons_zero, List.getElem?_cons_succ, Option.bind_some, Option.toList_some, Option.toList_none, List.cons_append, List.nil_append, not_true_eq_false, if_false, if_true, if_pos m1, a2, g14, rs_p18 K2, gf, if_pos g3]
theorem y_wrong {f : Nat} (K : RS w0 A w S p (nI f) to v M b q ca ls ns) : ∃ w2, ex_call X 142 [.ref 32] w = some (some (.int 0), w2) ∧ RF w0 A w2 f := by
  have m2 : ¬ 0 ≤ (-1 : Int32) := by decide
  refine ⟨_, ?_, rs_f (f := f) K⟩
  show ex_go X 142 0 [(0, .ref 32)] [] w = _
  simp (disch := first | assumption | decide) only [s142_0, s142_1, s142_4, s142_7, s142_8, s142_9, s142_12, s142_15, s142_16, rs_g K, List.getElem?_cons_zero, List.getElem?_cons_succ, Option.bind_some, Option.toList_some, Option.toList_none, List.cons_append, List.nil_append, not_true_eq_false, if_false, if_true, if_neg m2, rs_p18 K]
theorem y_room {f n : Nat} (K : RS w0 A w S p (nI f) to v M b q ca ls ns) (hb : b ≤ 120) (hn : n < 2 ^ 20) : (b + n ≤ 120 → ∃ w2, ex_call X 146 [.ref 32, .int (nI n)] w = some (some (.int 1), w2) ∧ RS w0 A w2 S p (nI f) to v M (b + n) q ca ls ns) ∧ (¬ b + n ≤ 120 → ∃ w2, ex_call X 146 [.ref 32, .int (nI n)] w = some (some (.int 0), w2) ∧ RF w0 A w2 f) := by
  have rc := rs_rc K
  constructor
  · intro c
    have e : nI (b + n) ≤ 120 := nI_le (b := 120) c (by decide)
    refine ⟨_, ?_, rs_set (p2 := p) (fr2 := nI f) (to2 := to) (v2 := v) (b2 := b + n) (q2 := q) (ca2 := ca) K⟩
    show ex_go X 146 0 [(0, .ref 32), (1, .int (nI n))] [] w = _
    simp (disch := first | assumption | decide) only [s146_0, s146_1, s146_4, s146_5, s146_6, s146_8, s146_11, s146_12, s146_15, s146_16, s146_17, s146_18, s146_21, s146_22, s146_23, s146_26, s146_27, rs_g K, List.getElem?_cons_zero, List.getElem?_cons_succ, Option.bind_some, Option.toList_some, Option.toList_none, List.cons_append, List.nil_append, not_true_eq_false, if_false, if_true, nI_add, if_pos e, rs_p20 K]
  · intro c
    have e : ¬ nI (b + n) ≤ 120 := nI_ge (a := 120) (by omega) (by omega)
    obtain ⟨w2, a2, F2⟩ := y_wrong (X := X) K
    refine ⟨w2, ?_, F2⟩
    show ex_go X 146 0 [(0, .ref 32), (1, .int (nI n))] [] w = _
    simp (disch := first | assumption | decide) only [s146_0, s146_1, s146_4, s146_5, s146_6, s146_8, s146_11, s146_12, s146_15, s146_16, s146_17, s146_18, s146_21, s146_22, s146_23, s146_26, s146_27, rs_g K, List.getElem?_cons_zero, List.getElem?_cons_succ, Option.bind_some, Option.toList_some, Option.toList_none, List.cons_append, List.nil_append, not_true_eq_false, if_false, if_true, nI_add, if_neg e, a2]
/-- one byte more -/
theorem y_add {x : Int32} {c : Nat} (K : RS w0 A w S p fr to v M b q ca ls ns) (hM : M.length < 140) (hx : x &&& 255 = nI c) : ∃ w2, ex_call X 137 [.ref 32, .int x] w = some (none, w2) ∧ RS w0 A w2 S p fr to v (M ++ [c]) b q ca ls ns := by
  obtain ⟨⟨k1, k2⟩, k3, ⟨ms, m1, m2, m3⟩, k5⟩ := K
  have K : RS w0 A w S p fr to v M b q ca ls ns := ⟨⟨k1, k2⟩, k3, ⟨ms, m1, m2, m3⟩, k5⟩
  have as := ex_as_i (kd := 0) (n := M.length) (x := nI c) m1 (by omega) (by omega)
  have s3 : (w.set 34 (.inr (0, ms.set M.length (nI c))))[32]? = some (rd A (nI M.length) (nI S.length) (nI p) fr to (-1) (nI b) (nI q) (nI ca) (nI ls.length) (nI ns.length) v) := ex_set_o (by decide) k3
  have pf : ex_pf (w.set 34 (.inr (0, ms.set M.length (nI c)))) 32 8 3 (.int (nI (M.length + 1))) = some ((w.set 34 (.inr (0, ms.set M.length (nI c)))).set 32 (rd A (nI (M.length + 1)) (nI S.length) (nI p) fr to (-1) (nI b) (nI q) (nI ca) (nI ls.length) (nI ns.length) v)) := ex_pf_i s3 (Nat.le_of_ble_eq_true rfl)
  have o : ∀ j, j ≠ 32 → j ≠ 34 → ((w.set 34 (.inr (0, ms.set M.length (nI c)))).set 32 (rd A (nI (M.length + 1)) (nI S.length) (nI p) fr to (-1) (nI b) (nI q) (nI ca) (nI ls.length) (nI ns.length) v))[j]? = w[j]? := by
    intro j h1 h2
    rw [List.getElem?_set_ne (Ne.symm h1), List.getElem?_set_ne (Ne.symm h2)]
  refine ⟨_, ?_, ⟨⟨by rw [List.length_set, List.length_set]; exact k1, fun j hj => (o j (by omega) (by omega)).trans (k2 j hj)⟩, ?_, ⟨ms.set M.length (nI c), ex_set_o (by decide) (ex_set_s m1), by rw [List.length_set]; exact m2, holds_app m3 (by omega)⟩, rl_o k5 (fun j h1 h2 => o j (by omega) (by omega))⟩⟩
  · show ex_go X 137 0 [(0, .ref 32), (1, .int x)] [] w = _
    simp (disch := first | assumption | decide) only [s137_0, s137_1, s137_4, s137_5, s137_8, s137_9, s137_12, s137_13, s137_14, s137_15, s137_16, s137_19, s137_20, s137_21, s137_24, rs_g K, List.getElem?_cons_zero, List.getElem?_cons_succ, Option.bind_some, Option.toList_some, Option.toList_none, List.cons_append, List.nil_append, not_true_eq_false, if_false, if_true, hx, as, ex_gf_i s3, nI_1, pf]
  · rw [List.length_append, List.length_singleton]
    exact ex_set_s s3
end REF
