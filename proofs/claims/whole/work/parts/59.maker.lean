/-! the class's maker -/
def byt (v : Int64) (i : Nat) : Nat := ((v >>> (((8 : Int32) * nI i).toInt64 &&& 63)).toInt32).toBitVec.toNat % 2 ^ 8
def lowBy (v : Int64) : Nat → List Nat
  | 0 => []
  | k + 1 => byt v k :: lowBy v k
theorem byt_lt (v : Int64) (i : Nat) : byt v i < 256 := Nat.mod_lt _ (by decide)
theorem lowBy_len (v : Int64) : ∀ k, (lowBy v k).length = k
  | 0 => rfl
  | k + 1 => by rw [lowBy, List.length_cons, lowBy_len v k]
theorem byt_and (v : Int64) (i : Nat) : (v >>> (((8 : Int32) * nI i).toInt64 &&& 63)).toInt32 &&& 255 = nI (byt v i) := pk_and _ 8 rfl
/-- a word that is a number, as bytes -/
def rNum (S : List Nat) (m M : Int64) (k p b : Nat) : Option (List Nat) := match rdN S p with
  | some v => if m ≤ v ∧ v ≤ M ∧ b + k ≤ 120 then some (lowBy v k) else none
  | none => none
def mk (pt cc br ic hl hr cs : Int32) : ex_C := .inl (4, [.ref 6, .ref 8, .ref 10, .int pt, .int cc, .int br, .int ic, .int hl, .int hr, .int cs])
/-- the lines and names -/
def nmK (n : Nat × Nat × Nat) : Nat := if n.1 ≤ 2147483647 then n.1 else 2147483647
def isLb (w : ex_W) (ls : List Nat) (ns : List (Nat × Nat × Nat)) : Prop := ∃ a b c d : List Int32, w[10]? = some (.inl (3, [.ref 11, .int (nI ls.length), .ref 12, .ref 13, .ref 14, .int (nI ns.length)])) ∧ w[11]? = some (.inr (0, a)) ∧ a.length = 64 ∧ holds a ls ∧ w[12]? = some (.inr (0, b)) ∧ b.length = 64 ∧ holds b (ns.map nmK) ∧ w[13]? = some (.inr (0, c)) ∧ c.length = 64 ∧ holds c (ns.map (fun n => n.2.1)) ∧ w[14]? = some (.inr (0, d)) ∧ d.length = 64 ∧ holds d (ns.map (fun n => n.2.2))
theorem lb_o {w w2 : ex_W} {ls : List Nat} {ns : List (Nat × Nat × Nat)} (h : isLb w ls ns) (e : ∀ j, 10 ≤ j → j ≤ 14 → w2[j]? = w[j]?) : isLb w2 ls ns := by
  obtain ⟨a, b, c, d, h1, h2, h3, h4, h5, h6, h7, h8, h9, h10, h11, h12, h13⟩ := h
  exact ⟨a, b, c, d, (e 10 (by decide) (by decide)).trans h1, (e 11 (by decide) (by decide)).trans h2, h3, h4, (e 12 (by decide) (by decide)).trans h5, h6, h7, (e 13 (by decide) (by decide)).trans h8, h9, h10, (e 14 (by decide) (by decide)).trans h11, h12, h13⟩
def isMk (w0 w : ex_W) (L : Nat) (S : List Nat) (p : Nat) (v : Int64) (M : List Nat) (pt cc br ic hl hr cs : Int32) (ls : List Nat) (ns : List (Nat × Nat × Nat)) : Prop := w.length = w0.length ∧ (∀ j, j < 5 ∨ j = 9 ∨ 14 < j → w[j]? = w0[j]?) ∧ w[5]? = some (mk pt cc br ic hl hr cs) ∧ (∃ xs : List Int32, isRow w 6 7 xs M.length ∧ holds xs M ∧ xs.length = 120) ∧ isWo w L S p v ∧ isLb w ls ns
def isEn (w0 : ex_W) (L : Nat) (S : List Nat) : Prop := isLt w0 L S ∧ (L < 5 ∨ 14 < L) ∧ L < 1000
/-- the maker stopped at the word that begins at f -/
def isMf (w0 w : ex_W) (L : Nat) (S : List Nat) (f : Nat) : Prop := ∃ p v M pt cc br ic hl hr cs ls ns, isMk w0 w L S p v M pt cc br ic hl hr cs ls ns ∧ p ≤ S.length ∧ wF S p = f
section MAKER
variable {X : Option (List Int32)} {w0 w : ex_W} {L : Nat} {S : List Nat} {p : Nat} {v : Int64} {M : List Nat} {pt cc br ic hl hr cs : Int32} {ls : List Nat} {ns : List (Nat × Nat × Nat)}
theorem mk_T (K : isMk w0 w L S p v M pt cc br ic hl hr cs ls ns) (E : isEn w0 L S) : isLt w L S := lt_o E.1 (K.2.1 L (by have := E.2.1; omega))
theorem mk_r5 (K : isMk w0 w L S p v M pt cc br ic hl hr cs ls ns) : ex_rc w 5 4 = true := ex_rc_o K.2.2.1 (by decide) (by decide)
theorem mk_r6 (K : isMk w0 w L S p v M pt cc br ic hl hr cs ls ns) : ex_rc w 6 1 = true := by
  obtain ⟨xs, R, _⟩ := K.2.2.2.1
  exact ex_rc_o R.1 (by decide) (by decide)
theorem mk_r8 (K : isMk w0 w L S p v M pt cc br ic hl hr cs ls ns) : ex_rc w 8 7 = true := w_rc K.2.2.2.2.1
theorem mk_r10 (K : isMk w0 w L S p v M pt cc br ic hl hr cs ls ns) : ex_rc w 10 3 = true := by
  obtain ⟨a, b, c, d, h1, _⟩ := K.2.2.2.2.2
  exact ex_rc_o h1 (by decide) (by decide)
theorem mk_g (K : isMk w0 w L S p v M pt cc br ic hl hr cs ls ns) (k : Nat) : ex_gf w 5 4 k = [Value.ref 6, .ref 8, .ref 10, .int pt, .int cc, .int br, .int ic, .int hl, .int hr, .int cs][k]? := ex_gf_i K.2.2.1
theorem mk_n (K : isMk w0 w L S p v M pt cc br ic hl hr cs ls ns) : ex_gf w 6 1 1 = some (.int (nI M.length)) := by
  obtain ⟨xs, R, _⟩ := K.2.2.2.1
  exact ex_gf_i R.1
theorem mk_W (K : isMk w0 w L S p v M pt cc br ic hl hr cs ls ns) : isWo w L S p v := K.2.2.2.2.1
theorem mk_120 (K : isMk w0 w L S p v M pt cc br ic hl hr cs ls ns) : M.length ≤ 120 := by
  obtain ⟨xs, R, H, h⟩ := K.2.2.2.1
  have := H.1
  omega
theorem wo_o {w2 : ex_W} (W : isWo w L S p v) (e : w2[8]? = w[8]?) : isWo w2 L S p v := by
  obtain ⟨hn, bl, ls, h8, h⟩ := W
  exact ⟨hn, bl, ls, e.trans h8, h⟩
/-- the words alone have changed -/
theorem mk_fr8 {w2 : ex_W} {p2 : Nat} {v2 : Int64} (K : isMk w0 w L S p v M pt cc br ic hl hr cs ls ns) (h : fr8 w w2) (W : isWo w2 L S p2 v2) : isMk w0 w2 L S p2 v2 M pt cc br ic hl hr cs ls ns := by
  obtain ⟨k1, k2, k3, ⟨xs, R, H, hx⟩, k5, k6⟩ := K
  exact ⟨h.1.trans k1, fun j hj => (h.2 j (by omega)).trans (k2 j hj), (h.2 5 (by decide)).trans k3, ⟨xs, ⟨(h.2 6 (by decide)).trans R.1, (h.2 7 (by decide)).trans R.2.1, R.2.2⟩, H, hx⟩, W, lb_o k6 (fun j h1 h2 => h.2 j (by omega))⟩
/-- its own fields have changed -/
theorem mk_set {pt2 cc2 br2 ic2 hl2 hr2 cs2 : Int32} (K : isMk w0 w L S p v M pt cc br ic hl hr cs ls ns) : isMk w0 (w.set 5 (mk pt2 cc2 br2 ic2 hl2 hr2 cs2)) L S p v M pt2 cc2 br2 ic2 hl2 hr2 cs2 ls ns := by
  obtain ⟨k1, k2, k3, ⟨xs, R, H, hx⟩, k5, k6⟩ := K
  have o : ∀ j, j ≠ 5 → (w.set 5 (mk pt2 cc2 br2 ic2 hl2 hr2 cs2))[j]? = w[j]? := fun j h => List.getElem?_set_ne (Ne.symm h)
  exact ⟨by rw [List.length_set]; exact k1, fun j hj => (o j (by omega)).trans (k2 j hj), ex_set_s k3, ⟨xs, ⟨(o 6 (by decide)).trans R.1, (o 7 (by decide)).trans R.2.1, R.2.2⟩, H, hx⟩, wo_o k5 (o 8 (by decide)), lb_o k6 (fun j h1 h2 => o j (by omega))⟩
theorem mk_p3 {x : Int32} (K : isMk w0 w L S p v M pt cc br ic hl hr cs ls ns) : ex_pf w 5 4 3 (.int x) = some (w.set 5 (mk x cc br ic hl hr cs)) := ex_pf_i K.2.2.1 (Nat.le_of_ble_eq_true rfl)
theorem mk_p4 {x : Int32} (K : isMk w0 w L S p v M pt cc br ic hl hr cs ls ns) : ex_pf w 5 4 4 (.int x) = some (w.set 5 (mk pt x br ic hl hr cs)) := ex_pf_i K.2.2.1 (Nat.le_of_ble_eq_true rfl)
theorem mk_p5 {x : Int32} (K : isMk w0 w L S p v M pt cc br ic hl hr cs ls ns) : ex_pf w 5 4 5 (.int x) = some (w.set 5 (mk pt cc x ic hl hr cs)) := ex_pf_i K.2.2.1 (Nat.le_of_ble_eq_true rfl)
theorem mk_p6 {x : Int32} (K : isMk w0 w L S p v M pt cc br ic hl hr cs ls ns) : ex_pf w 5 4 6 (.int x) = some (w.set 5 (mk pt cc br x hl hr cs)) := ex_pf_i K.2.2.1 (Nat.le_of_ble_eq_true rfl)
theorem mk_p7 {x : Int32} (K : isMk w0 w L S p v M pt cc br ic hl hr cs ls ns) : ex_pf w 5 4 7 (.int x) = some (w.set 5 (mk pt cc br ic x hr cs)) := ex_pf_i K.2.2.1 (Nat.le_of_ble_eq_true rfl)
theorem mk_p8 {x : Int32} (K : isMk w0 w L S p v M pt cc br ic hl hr cs ls ns) : ex_pf w 5 4 8 (.int x) = some (w.set 5 (mk pt cc br ic hl x cs)) := ex_pf_i K.2.2.1 (Nat.le_of_ble_eq_true rfl)
theorem mk_p9 {x : Int32} (K : isMk w0 w L S p v M pt cc br ic hl hr cs ls ns) : ex_pf w 5 4 9 (.int x) = some (w.set 5 (mk pt cc br ic hl hr x)) := ex_pf_i K.2.2.1 (Nat.le_of_ble_eq_true rfl)
/-- what is made has changed -/
theorem mk_row {ys : List Int32} {M2 : List Nat} (K : isMk w0 w L S p v M pt cc br ic hl hr cs ls ns) (hy : ys.length = 120) (H2 : holds ys M2) : isMk w0 (rowW w 6 7 ys M2.length) L S p v M2 pt cc br ic hl hr cs ls ns := by
  obtain ⟨k1, k2, k3, ⟨xs, R, H, hx⟩, k5, k6⟩ := K
  have o : ∀ j, j ≠ 6 → j ≠ 7 → (rowW w 6 7 ys M2.length)[j]? = w[j]? := fun j a b => rowW_o a b
  exact ⟨by rw [rowW_len]; exact k1, fun j hj => (o j (by omega) (by omega)).trans (k2 j hj), (o 5 (by decide) (by decide)).trans k3, ⟨ys, rowW_is R (hy.trans hx.symm) H2.1, H2, hy⟩, wo_o k5 (o 8 (by decide) (by decide)), lb_o k6 (fun j h1 h2 => o j (by omega) (by omega))⟩
theorem mk_app {c : Nat} (K : isMk w0 w L S p v M pt cc br ic hl hr cs ls ns) (h : M.length < 120) : ∃ w2, ex_call X 17 [.ref 6, .int (nI c)] w = some (none, w2) ∧ isMk w0 w2 L S p v (M ++ [c]) pt cc br ic hl hr cs ls ns := by
  obtain ⟨xs, R, H, hx⟩ := K.2.2.2.1
  refine ⟨_, r_append R (by omega), ?_⟩
  have := mk_row (M2 := M ++ [c]) K (ys := xs.set M.length (nI c)) (by rw [List.length_set]; exact hx) (holds_app H (by omega))
  rw [List.length_append, List.length_singleton] at this
  exact this
theorem mk_empty (K : isMk w0 w L S p v M pt cc br ic hl hr cs ls ns) : ∃ w2, ex_call X 16 [.ref 6] w = some (none, w2) ∧ isMk w0 w2 L S p v [] pt cc br ic hl hr cs ls ns := by
  obtain ⟨xs, R, H, hx⟩ := K.2.2.2.1
  exact ⟨_, r_empty R, mk_row (M2 := []) K hx holds_nil⟩
theorem mk_cell {i : Nat} (K : isMk w0 w L S p v M pt cc br ic hl hr cs ls ns) (hi : i < 2 ^ 31) : ex_call X 18 [.ref 6, .int (nI i)] w = some (some (.int (nI (M.getD i 0))), w) := by
  obtain ⟨xs, R, H, hx⟩ := K.2.2.2.1
  exact r_cellB R H hi
theorem holds_set {xs : List Int32} {B : List Nat} {i c : Nat} (H : holds xs B) (hi : i < B.length) : holds (xs.set i (nI c)) (B.set i c) := by
  refine ⟨by rw [List.length_set, List.length_set]; exact H.1, fun j hj => ?_⟩
  rw [List.length_set] at hj
  have := H.1
  have e2 : (B.set i c).getD j 0 = if i = j then c else B.getD j 0 := by
    rw [List.getD_eq_getElem?_getD, List.getElem?_set]
    by_cases e : i = j
    · rw [if_pos e, if_pos e, if_pos hi]; rfl
    · rw [if_neg e, if_neg e, List.getD_eq_getElem?_getD]
  rw [set_get (by omega), e2]
  by_cases e : i = j
  · rw [if_pos e, if_pos e]
  · rw [if_neg e, if_neg e, H.2 j hj]
theorem mk_change {i c : Nat} (K : isMk w0 w L S p v M pt cc br ic hl hr cs ls ns) (hi : i < M.length) : ∃ w2, ex_call X 19 [.ref 6, .int (nI i), .int (nI c)] w = some (none, w2) ∧ isMk w0 w2 L S p v (M.set i c) pt cc br ic hl hr cs ls ns := by
  have h120 := mk_120 K
  obtain ⟨xs, R, H, hx⟩ := K.2.2.2.1
  have M2 := mk_row (M2 := M.set i c) K (ys := xs.set i (nI c)) (by rw [List.length_set]; exact hx) (holds_set H hi)
  rw [List.length_set] at M2
  refine ⟨_, ?_, M2⟩
  have c0 : ¬ nI i < 0 := nI_pos (by omega)
  have c1 : ¬ nI M.length ≤ nI i := nI_ge hi (by omega)
  have as := ex_as_i (kd := 0) (n := i) (x := nI c) R.2.1 (by omega) (by omega)
  have e : w.set 7 (.inr (0, xs.set i (nI c))) = rowW w 6 7 (xs.set i (nI c)) M.length := by
    unfold rowW
    rw [set_id (i := 6) (ex_set_o (by decide) R.1)]
  rw [e] at as
  show ex_go X 19 0 [(0, .ref 6), (1, .int (nI i)), (2, .int (nI c))] [] w = _
  simp (disch := first | assumption | decide) only [s19_0, s19_1, s19_4, s19_5, s19_6, s19_9, s19_12, s19_13, s19_16, s19_17, s19_18, s19_19, if_neg c0, ex_gf_i R.1, List.getElem?_cons_zero, List.getElem?_cons_succ, Option.bind_some, Option.toList_some, Option.toList_none, List.cons_append, List.nil_append, not_true_eq_false, if_false, if_true, if_neg c1, as]
theorem c_hasRoom {b n : Nat} (K : isMk w0 w L S p v M pt cc (nI b) ic hl hr cs ls ns) (hb : b ≤ 120) (hn : n < 2 ^ 20) : ex_call X 49 [.ref 5, .int (nI n)] w = some (some (.int (if b + n ≤ 120 then 1 else 0)), w) := by
  show ex_go X 49 0 [(0, .ref 5), (1, .int (nI n))] [] w = _
  by_cases c : b + n ≤ 120
  · have e : ¬ 120 < nI (b + n) := nI_nlt (a := 120) (by omega) (by decide)
    rw [if_pos c]
    simp (disch := first | assumption | decide) only [s49_0, s49_1, s49_4, s49_5, s49_6, s49_8, s49_11, s49_12, s49_15, s49_16, mk_g K, List.getElem?_cons_zero, List.getElem?_cons_succ, Option.bind_some, Option.toList_some, Option.toList_none, List.cons_append, List.nil_append, not_true_eq_false, if_false, if_true, nI_add, if_neg e]
  · have e : 120 < nI (b + n) := nI_lt (a := 120) (by omega) (by omega)
    rw [if_neg c]
    simp (disch := first | assumption | decide) only [s49_0, s49_1, s49_4, s49_5, s49_6, s49_8, s49_11, s49_12, s49_15, s49_16, mk_g K, List.getElem?_cons_zero, List.getElem?_cons_succ, Option.bind_some, Option.toList_some, Option.toList_none, List.cons_append, List.nil_append, not_true_eq_false, if_false, if_true, nI_add, if_pos e]
theorem c_bringLoop {u : Int64} : ∀ (k : Nat) (M : List Nat) (w : ex_W), isMk w0 w L S p v M pt cc br ic hl hr cs ls ns → M.length + k ≤ 120 → ∃ w2, ex_go X 50 25 [(0, .ref 5), (1, .long u), (4, .int (nI k - 1))] [] w = some (some (.int 1), w2) ∧ isMk w0 w2 L S p v (M ++ lowBy u k) pt cc br ic hl hr cs ls ns := by
  intro k
  induction k with
  | zero =>
    intro M w K h
    have e : nI 0 - 1 < 0 := by decide
    refine ⟨w, ?_, by rw [lowBy, List.append_nil]; exact K⟩
    simp (disch := first | assumption | decide) only [s50_25, s50_27, s50_30, s50_31, s50_34, s50_35, s50_37, s50_39, s50_40, s50_41, s50_42, s50_45, s50_46, s50_49, s50_52, s50_55, s50_56, if_pos e]
  | succ k ih =>
    intro M w K h
    rw [nI_pred]
    have e : ¬ nI k < 0 := nI_pos (by omega)
    have r6 := mk_r6 K
    obtain ⟨w2, a2, K2⟩ := mk_app (X := X) (c := byt u k) K (by omega)
    obtain ⟨w3, a3, K3⟩ := ih _ w2 K2 (by rw [List.length_append, List.length_singleton]; omega)
    have em : nI k + (-1) = nI k - 1 := by rw [Int32.sub_eq_add_neg]
    refine ⟨w3, ?_, by rw [lowBy]; simp only [List.append_assoc, List.cons_append, List.nil_append] at K3 ⊢; exact K3⟩
    rw [s50_25]
    simp (disch := first | assumption | decide) only [s50_27, s50_30, s50_31, s50_34, s50_35, s50_37, s50_39, s50_40, s50_41, s50_42, s50_45, s50_46, s50_49, s50_52, if_neg e, mk_g K, List.getElem?_cons_zero, List.getElem?_cons_succ, Option.bind_some, Option.toList_some, Option.toList_none, List.cons_append, List.nil_append, not_true_eq_false, if_false, if_true, byt_and, a2, em, a3]
theorem c_bringYes {b k : Nat} {u : Int64} (K : isMk w0 w L S p v M pt cc (nI b) ic hl hr cs ls ns) (hM : M.length ≤ b) (hb : b + k ≤ 120) : ∃ w2, ex_call X 50 [.ref 5, .long u, .int (nI k)] w = some (some (.int 1), w2) ∧ isMk w0 w2 L S p v (M ++ lowBy u k) pt cc (nI (b + k)) ic hl hr cs ls ns := by
  have hr0 := c_hasRoom (X := X) (n := k) K (by omega) (by omega)
  rw [if_pos hb] at hr0
  have r5 := mk_r5 K
  have n1 : ¬ (1 : Int32) = 0 := by decide
  have K1 := mk_set (pt2 := pt) (cc2 := cc) (br2 := nI (b + k)) (ic2 := ic) (hl2 := hl) (hr2 := hr) (cs2 := cs) K
  obtain ⟨w2, a2, K2⟩ := c_bringLoop (X := X) (u := u) k M _ K1 (by omega)
  refine ⟨w2, ?_, K2⟩
  show ex_go X 50 0 [(0, .ref 5), (1, .long u), (3, .int (nI k))] [] w = _
  simp (disch := first | assumption | decide) only [s50_0, s50_1, s50_2, s50_5, s50_8, s50_9, s50_10, s50_11, s50_12, s50_15, s50_16, s50_17, s50_20, s50_21, s50_22, s50_23, hr0, List.getElem?_cons_zero, List.getElem?_cons_succ, Option.bind_some, Option.toList_some, Option.toList_none, List.cons_append, List.nil_append, not_true_eq_false, if_false, if_true, if_pos n1, mk_g K, nI_add, mk_p5 K, a2]
theorem c_bringNo {b k : Nat} {u : Int64} (K : isMk w0 w L S p v M pt cc (nI b) ic hl hr cs ls ns) (hb : b ≤ 120) (hk : k < 2 ^ 20) (h : ¬ b + k ≤ 120) : ex_call X 50 [.ref 5, .long u, .int (nI k)] w = some (some (.int 0), w) := by
  have hr0 := c_hasRoom (X := X) (n := k) K hb hk
  rw [if_neg h] at hr0
  have r5 := mk_r5 K
  show ex_go X 50 0 [(0, .ref 5), (1, .long u), (3, .int (nI k))] [] w = _
  simp (disch := first | assumption | decide) only [s50_0, s50_1, s50_2, s50_5, s50_8, s50_9, s50_10, s50_11, s50_12, s50_15, s50_16, s50_17, s50_20, s50_21, s50_22, s50_23, hr0, List.getElem?_cons_zero, List.getElem?_cons_succ, Option.bind_some, Option.toList_some, Option.toList_none, List.cons_append, List.nil_append, not_true_eq_false, if_false, if_true]
theorem c_stepM (K : isMk w0 w L S p v M pt cc br ic hl hr cs ls ns) (E : isEn w0 L S) (hp : p ≤ S.length) : ∃ w2, ex_call X 86 [.ref 8] w = some (none, w2) ∧ isMk w0 w2 L S (wT S p) v M pt cc br ic hl hr cs ls ns := by
  obtain ⟨c, a1, a2⟩ := w_step (X := X) E.2.2 (by have := E.2.1; omega) (mk_W K) (mk_T K E) hp
  exact ⟨_, a1, mk_fr8 K fr8_set a2⟩
theorem c_readNumber {b k : Nat} {m Mx : Int64} (K : isMk w0 w L S p v M pt cc (nI b) ic hl hr cs ls ns) (E : isEn w0 L S) (hp : p ≤ S.length) (hM : M.length ≤ b) (hb : b ≤ 120) (hk : k < 2 ^ 20) (h1 : m.toInt ≤ 0) (h2 : 0 ≤ Mx.toInt) : (∀ xs, rNum S m Mx k p b = some xs → ∃ w2 v2, ex_call X 53 [.ref 5, .long m, .long Mx, .int (nI k)] w = some (some (.int 1), w2) ∧ isMk w0 w2 L S (wT S p) v2 (M ++ xs) pt cc (nI (b + k)) ic hl hr cs ls ns) ∧ (rNum S m Mx k p b = none → ∃ w2, ex_call X 53 [.ref 5, .long m, .long Mx, .int (nI k)] w = some (some (.int 0), w2) ∧ isMf w0 w2 L S (wF S p)) := by
  have r5 := mk_r5 K
  have r8 := mk_r8 K
  have n1 : ¬ (1 : Int32) = 0 := by decide
  obtain ⟨w1, v1, r, a1, f1, W1, hr1⟩ := w_isNumber (X := X) (m := m) (M := Mx) E.2.2 (mk_W K) (mk_T K E) h1 h2
  have K1 := mk_fr8 K f1 W1
  have r51 := mk_r5 K1
  have hd : ex_call X 53 [.ref 5, .long m, .long Mx, .int (nI k)] w = ex_go X 53 9 [(0, .ref 5), (1, .long m), (3, .long Mx), (5, .int (nI k))] [.int r] w1 := by
    show ex_go X 53 0 [(0, .ref 5), (1, .long m), (3, .long Mx), (5, .int (nI k))] [] w = _
    simp (disch := first | assumption | decide) only [s53_0, s53_1, s53_4, s53_5, s53_6, mk_g K, List.getElem?_cons_zero, List.getElem?_cons_succ, Option.bind_some, Option.toList_some, Option.toList_none, List.cons_append, List.nil_append, not_true_eq_false, if_false, if_true, a1]
  rw [hd]
  have fl : ∀ w2, isMk w0 w2 L S p v1 M pt cc (nI b) ic hl hr cs ls ns → isMf w0 w2 L S (wF S p) := fun w2 K2 => ⟨_, _, _, _, _, _, _, _, _, _, _, _, K2, hp, rfl⟩
  rcases hr1 with ⟨e, hv, g1, g2⟩ | ⟨e, hv⟩
  · subst e
    have er : rNum S m Mx k p b = if b + k ≤ 120 then some (lowBy v1 k) else none := by
      unfold rNum
      rw [hv]
      by_cases c : b + k ≤ 120
      · rw [if_pos c]; exact if_pos ⟨g1, g2, c⟩
      · rw [if_neg c]; exact if_neg (fun z => c z.2.2)
    rw [er]
    by_cases c : b + k ≤ 120
    · rw [if_pos c]
      obtain ⟨w2, a2, K2⟩ := c_bringYes (X := X) (u := v1) K1 hM c
      have r82 := mk_r8 K2
      obtain ⟨w3, a3, K3⟩ := c_stepM (X := X) K2 E hp
      refine ⟨fun xs hx => ?_, fun z => (by cases z)⟩
      cases hx
      refine ⟨w3, v1, ?_, K3⟩
      simp (disch := first | assumption | decide) only [s53_9, s53_12, s53_13, s53_14, s53_17, s53_20, s53_22, s53_25, s53_28, s53_29, s53_30, s53_31, s53_34, s53_37, s53_38, if_neg n1, mk_g K1, List.getElem?_cons_zero, List.getElem?_cons_succ, Option.bind_some, Option.toList_some, Option.toList_none, List.cons_append, List.nil_append, not_true_eq_false, if_false, if_true, w_value W1, a2, if_pos n1, mk_g K2, a3]
    · rw [if_neg c]
      have bn := c_bringNo (X := X) (u := v1) K1 hb hk c
      refine ⟨fun xs hx => (by cases hx), fun _ => ⟨w1, ?_, fl w1 K1⟩⟩
      simp (disch := first | assumption | decide) only [s53_9, s53_12, s53_13, s53_14, s53_17, s53_20, s53_22, s53_25, s53_28, s53_29, s53_30, s53_31, s53_34, s53_37, s53_38, if_neg n1, mk_g K1, List.getElem?_cons_zero, List.getElem?_cons_succ, Option.bind_some, Option.toList_some, Option.toList_none, List.cons_append, List.nil_append, not_true_eq_false, if_false, if_true, w_value W1, bn]
  · subst e
    have er : rNum S m Mx k p b = none := by
      unfold rNum
      cases hq : rdN S p with
      | none => rfl
      | some u => exact if_neg (fun z => hv u hq ⟨z.1, z.2.1⟩)
    rw [er]
    refine ⟨fun xs hx => (by cases hx), fun _ => ⟨w1, ?_, fl w1 K1⟩⟩
    simp (disch := first | assumption | decide) only [s53_9, s53_12, s53_13, s53_14, s53_17, s53_20, s53_22, s53_25, s53_28, s53_29, s53_30, s53_31, s53_34, s53_37, s53_38, List.getElem?_cons_zero, List.getElem?_cons_succ, Option.bind_some, Option.toList_some, Option.toList_none, List.cons_append, List.nil_append, not_true_eq_false, if_false, if_true]
theorem c_readByte {b : Nat} (K : isMk w0 w L S p v M pt cc (nI b) ic hl hr cs ls ns) (E : isEn w0 L S) (hp : p ≤ S.length) (hM : M.length ≤ b) (hb : b ≤ 120) : (∀ xs, rNum S 0 255 1 p b = some xs → ∃ w2 v2, ex_call X 60 [.ref 5] w = some (some (.int 1), w2) ∧ isMk w0 w2 L S (wT S p) v2 (M ++ xs) pt cc (nI (b + 1)) ic hl hr cs ls ns) ∧ (rNum S 0 255 1 p b = none → ∃ w2, ex_call X 60 [.ref 5] w = some (some (.int 0), w2) ∧ isMf w0 w2 L S (wF S p)) := by
  have r5 := mk_r5 K
  have rn := c_readNumber (X := X) (k := 1) (m := 0) (Mx := 255) K E hp hM hb (by decide) (by decide) (by decide)
  constructor
  · intro xs hx
    obtain ⟨w2, v2, a2, K2⟩ := rn.1 xs hx
    have a2 : ex_call X 53 [.ref 5, .long 0, .long 255, .int 1] w = some (some (.int 1), w2) := a2
    refine ⟨w2, v2, ?_, K2⟩
    show ex_go X 60 0 [(0, .ref 5)] [] w = _
    simp (disch := first | assumption | decide) only [s60_0, s60_1, s60_2, s60_5, s60_6, s60_9, a2, List.getElem?_cons_zero, List.getElem?_cons_succ, Option.bind_some, Option.toList_some, Option.toList_none, List.cons_append, List.nil_append, not_true_eq_false, if_false, if_true]
  · intro hx
    obtain ⟨w2, a2, K2⟩ := rn.2 hx
    have a2 : ex_call X 53 [.ref 5, .long 0, .long 255, .int 1] w = some (some (.int 0), w2) := a2
    refine ⟨w2, ?_, K2⟩
    show ex_go X 60 0 [(0, .ref 5)] [] w = _
    simp (disch := first | assumption | decide) only [s60_0, s60_1, s60_2, s60_5, s60_6, s60_9, a2, List.getElem?_cons_zero, List.getElem?_cons_succ, Option.bind_some, Option.toList_some, Option.toList_none, List.cons_append, List.nil_append, not_true_eq_false, if_false, if_true]
end MAKER
