/-! the class's makeFrom -/
def isMd (w0 w : ex_W) (L : Nat) (S : List Nat) (M : List Nat) : Prop := ∃ p v pt cc br ic hl hr cs ls ns, isMk w0 w L S p v M pt cc br ic hl hr cs ls ns
def isMa (w : ex_W) : Prop := ∃ pt cc br ic hl hr cs M xs L n f t sg hn bl ls v lss nss, w[5]? = some (mk pt cc br ic hl hr cs) ∧ isRow w 6 7 xs M.length ∧ holds xs M ∧ xs.length = 120 ∧ w[8]? = some (wo L n f t sg hn bl ls v) ∧ isLb w lss nss
theorem byt_toInt32 {u : Int64} (h0 : 0 ≤ u) (h1 : u ≤ 255) : u.toInt32 = nI (byt u 0) := by
  have z : (0 : Int64).toInt = 0 := rfl
  have z2 : (255 : Int64).toInt = 255 := rfl
  rw [Int64.le_iff_toInt_le] at h0 h1
  rw [z] at h0
  rw [z2] at h1
  obtain ⟨k, hk⟩ : ∃ k : Nat, u.toInt = (k : Int) := ⟨u.toInt.toNat, by omega⟩
  have e : u = (nI k).toInt64 := by
    apply Int64.toInt_inj.mp
    rw [hk, Int32.toInt_toInt64, nI_toInt (by omega)]
  have hk2 : k < 256 := by omega
  have : ∀ k, k < 256 → ((nI k).toInt64).toInt32 = nI (byt (nI k).toInt64 0) := by decide +kernel
  rw [e]
  exact this k hk2
section MAKE2
variable {X : Option (List Int32)} {w0 w : ex_W} {L R : Nat} {S : List Nat} {p : Nat} {v : Int64} {M : List Nat} {pt cc br ic hl hr cs : Int32} {ls : List Nat} {ns : NM}
theorem c_topLoop {J : Nat → Nat → Prop} (T : isTR w0 R L S) (E : isEn w0 L S) (hJ : lnJ S J) : ∀ (k i p : Nat) (v : Int64) (D : List Nat) (q b : Nat) (I : List (List Nat)) (hl hr cs : Int32) (ls : List Nat) (ns : NM) (w : ex_W), S.length - p < k → i ≤ p → p ≤ S.length → isMk w0 w L S p v (M0 D I) (nI q) (nI D.length) (nI b) 0 hl hr cs ls ns → b = (M0 D I).length + 3 - q → b ≤ 120 → q ≤ 3 → I.length ≤ p → (∀ M, topP S k p D q I = .inr M → ∃ w2, ex_go X 41 20 [(0, .ref 5), (1, .ref R), (2, .int 1), (3, .int (nI i))] [] w = some (some (.int (-1)), w2) ∧ isMd w0 w2 L S M ∧ M.length ≤ 120) ∧ (∀ f, topP S k p D q I = .inl f → ∃ w2, ex_go X 41 20 [(0, .ref 5), (1, .ref R), (2, .int 1), (3, .int (nI i))] [] w = some (some (.int (nI f)), w2) ∧ isMf w0 w2 L S f) := by
  have hl0 := lt_len E.1
  intro k
  induction k with
  | zero => intro i p v D q b I hl hr cs ls ns w h; omega
  | succ k ih =>
    intro i p v D q b I hl hr cs ls ns w hk hi hp K hb h120 hq hI
    have wb := w_b hp
    rw [topP]
    by_cases hw : wF S p < wT S p
    · rw [if_pos hw]
      have it := c_item2 (X := X) T E hJ K hp hi hq hb h120 (by omega) hw
      rw [← hb]
      cases hP : itemP S q p b with
      | inl f =>
        refine ⟨fun M z => (by cases z), fun g z => ?_⟩
        cases z
        exact it.2 f hP
      | inr u =>
        obtain ⟨j, t, xs⟩ := u
        obtain ⟨i2, v2, hl2, hr2, cs2, ls2, ns2, w2, a1, a2, a3, a4, a5, a6, K2, a8⟩ := it.1 j t xs hP
        have e : nxD D I q j ++ ((nxI I q j).length + 1) :: (nxI I q j).flatten ++ xs = M0 (nxD D I q j) (nxI I q j ++ [xs]) := by
          unfold M0
          rw [List.length_append, List.length_singleton, List.flatten_append, List.append_assoc]
          simp only [List.flatten_cons, List.flatten_nil, List.append_nil, List.cons_append]
        rw [e] at K2
        have ln := congrArg List.length (nx_M0 (D := D) (I := I) a5)
        rw [M0_len, List.length_append, List.length_replicate] at ln
        have ll : (M0 (nxD D I q j) (nxI I q j ++ [xs])).length = (nxD D I q j).length + 1 + (nxI I q j).flatten.length + xs.length := by
          rw [← e, List.length_append, List.length_append, List.length_cons]
          omega
        have il : (nxI I q j).length ≤ I.length := by
          unfold nxI
          split
          · exact Nat.le_refl _
          · exact Nat.zero_le _
        have ihh := ih i2 t v2 (nxD D I q j) j (b + xs.length) (nxI I q j ++ [xs]) hl2 hr2 cs2 ls2 ns2 w2 (by omega) a2 a3 K2 (by omega) a8 a6 (by rw [List.length_append, List.length_singleton]; omega)
        rw [a1]
        exact ihh
    · rw [if_neg hw]
      refine ⟨fun M z => ?_, fun g z => (by cases z)⟩
      cases z
      have r5 := mk_r5 K
      obtain ⟨w2, a2, K2⟩ := c_goToPart (X := X) (q := q + 1) (np := 3) (nI_1 q) (by decide) (by omega) K (by omega)
      have a2 : ex_call X 43 [.ref 5, .int 3] w = some (none, w2) := a2
      have e3 : 3 + 1 - (q + 1) = 3 - q := by omega
      rw [e3] at K2
      refine ⟨w2, ?_, ⟨_, _, _, _, _, _, _, _, _, _, _, K2⟩, by rw [List.length_append, List.length_replicate]; omega⟩
      rw [c_endI T E K hp hw]
      simp (disch := first | assumption | decide) only [s41_86, s41_87, s41_88, s41_91, s41_92, a2, List.getElem?_cons_zero, List.getElem?_cons_succ, Option.bind_some, Option.toList_some, Option.toList_none, List.cons_append, List.nil_append, not_true_eq_false, if_false, if_true]
theorem c_readFirst (E : isEn w0 L S) (K : isMk w0 w L S 0 v M pt cc br 0 hl hr cs ls ns) : (∀ xs, wd S 0 = txN 0 → rNum S 0 255 1 (wT S 0) 5 = some xs → ∃ w2 v2, ex_call X 42 [.ref 5] w = some (some (.int 1), w2) ∧ isMk w0 w2 L S (wT S (wT S 0)) v2 (M0 (77 :: xs) []) (nI 0) (nI 2) (nI 6) 0 hl hr cs ls ns) ∧ (wd S 0 = txN 0 → rNum S 0 255 1 (wT S 0) 5 = none → ∃ w2, ex_call X 42 [.ref 5] w = some (some (.int 0), w2) ∧ isMf w0 w2 L S (wF S (wT S 0))) ∧ (¬ wd S 0 = txN 0 → ex_call X 42 [.ref 5] w = some (some (.int 0), w)) := by
  have hp : 0 ≤ S.length := Nat.zero_le _
  have wb := w_b hp
  have r8 := mk_r8 K
  have n1 : ¬ (1 : Int32) = 0 := by decide
  have is : ex_call X 89 [.ref 8, .ref 1001] w = _ := c_is (X := X) (j := 0) (by decide) K E hp
  by_cases c : wd S 0 = txN 0
  · rw [if_pos c] at is
    obtain ⟨w1, a1, K1⟩ := c_stepM (X := X) K E hp
    have r81 := mk_r8 K1
    obtain ⟨w2, v2, r, a2, f2, W2, h2⟩ := w_isNumber (X := X) (m := 0) (M := 255) E.2.2 (mk_W K1) (mk_T K1 E) (by decide) (by decide)
    have K2 := mk_fr8 K1 f2 W2
    rcases h2 with ⟨hr0, hv, g1, g2⟩ | ⟨hr0, hv⟩
    · subst hr0
      have er : rNum S 0 255 1 (wT S 0) 5 = some [byt v2 0] := by
        unfold rNum
        rw [hv]
        exact if_pos ⟨g1, g2, by decide⟩
      have r62 := mk_r6 K2
      obtain ⟨w3, a3, K3⟩ := mk_empty (X := X) K2
      have r63 := mk_r6 K3
      obtain ⟨w4, a4, K4⟩ := mk_app (X := X) (c := 77) K3 (by decide)
      have a4 : ex_call X 17 [.ref 6, .int 77] w3 = some (none, w4) := a4
      have r64 := mk_r6 K4
      obtain ⟨w5, a5, K5⟩ := mk_app (X := X) (c := byt v2 0) K4 (by decide)
      rw [← byt_toInt32 g1 g2] at a5
      have r85 := mk_r8 K5
      obtain ⟨w6, a6, K6⟩ := c_stepM (X := X) K5 E wb.2.2.1
      have K7 := mk_set (pt2 := pt) (cc2 := cc) (br2 := 6) (ic2 := 0) (hl2 := hl) (hr2 := hr) (cs2 := cs) K6
      have K8 := mk_set (pt2 := -1) (cc2 := cc) (br2 := 6) (ic2 := 0) (hl2 := hl) (hr2 := hr) (cs2 := cs) K7
      have r58 := mk_r5 K8
      obtain ⟨w9, a9, K9⟩ := c_goToPart (X := X) (q := 0) (np := 0) (by decide) (by decide) (by decide) K8 (Nat.le_of_ble_eq_true rfl)
      have a9 : ex_call X 43 [.ref 5, .int 0] _ = some (none, w9) := a9
      refine ⟨fun xs _ hx => ?_, fun _ hx => ?_, fun h => absurd c h⟩
      · rw [er] at hx
        cases hx
        refine ⟨w9, _, ?_, K9⟩
        show ex_go X 42 0 [(0, .ref 5)] [] w = _
        simp (disch := first | assumption | decide) only [s42_0, s42_1, s42_4, s42_6, s42_9, s42_12, s42_13, s42_14, s42_15, s42_18, s42_21, s42_22, s42_25, s42_26, s42_29, s42_32, s42_35, s42_36, s42_37, s42_38, s42_41, s42_44, s42_45, s42_48, s42_50, s42_53, s42_54, s42_57, s42_58, s42_61, s42_64, s42_65, s42_68, s42_69, s42_72, s42_75, s42_76, s42_78, s42_81, s42_82, s42_83, s42_86, s42_87, s42_88, s42_91, s42_92, mk_g K, List.getElem?_cons_zero, List.getElem?_cons_succ, Option.bind_some, Option.toList_some, Option.toList_none, List.cons_append, List.nil_append, not_true_eq_false, if_false, if_true, is, if_pos n1, a1, mk_g K1, a2, mk_g K2, a3, mk_g K3, a4, mk_g K4, w_value (mk_W K4), a5, mk_g K5, a6, mk_p5 K6, mk_p3 K7, a9]
      · rw [er] at hx
        cases hx
    · subst hr0
      have er : rNum S 0 255 1 (wT S 0) 5 = none := by
        unfold rNum
        cases hq : rdN S (wT S 0) with
        | none => rfl
        | some u => exact if_neg (fun z => hv u hq ⟨z.1, z.2.1⟩)
      refine ⟨fun xs _ hx => ?_, fun _ _ => ?_, fun h => absurd c h⟩
      · rw [er] at hx
        cases hx
      · refine ⟨w2, ?_, mf_of K2 wb.2.2.1⟩
        show ex_go X 42 0 [(0, .ref 5)] [] w = _
        simp (disch := first | assumption | decide) only [s42_0, s42_1, s42_4, s42_6, s42_9, s42_12, s42_13, s42_14, s42_15, s42_18, s42_21, s42_22, s42_25, s42_26, s42_29, s42_32, s42_35, s42_36, s42_37, s42_38, s42_41, s42_44, s42_45, s42_48, s42_50, s42_53, s42_54, s42_57, s42_58, s42_61, s42_64, s42_65, s42_68, s42_69, s42_72, s42_75, s42_76, s42_78, s42_81, s42_82, s42_83, s42_86, s42_87, s42_88, s42_91, s42_92, mk_g K, List.getElem?_cons_zero, List.getElem?_cons_succ, Option.bind_some, Option.toList_some, Option.toList_none, List.cons_append, List.nil_append, not_true_eq_false, if_false, if_true, is, if_pos n1, a1, mk_g K1, a2]
  · rw [if_neg c] at is
    refine ⟨fun xs h _ => absurd h c, fun h _ => absurd h c, fun _ => ?_⟩
    show ex_go X 42 0 [(0, .ref 5)] [] w = _
    simp (disch := first | assumption | decide) only [s42_0, s42_1, s42_4, s42_6, s42_9, s42_12, s42_13, s42_14, s42_15, s42_18, s42_21, s42_22, s42_25, s42_26, s42_29, s42_32, s42_35, s42_36, s42_37, s42_38, s42_41, s42_44, s42_45, s42_48, s42_50, s42_53, s42_54, s42_57, s42_58, s42_61, s42_64, s42_65, s42_68, s42_69, s42_72, s42_75, s42_76, s42_78, s42_81, s42_82, s42_83, s42_86, s42_87, s42_88, s42_91, s42_92, mk_g K, List.getElem?_cons_zero, List.getElem?_cons_succ, Option.bind_some, Option.toList_some, Option.toList_none, List.cons_append, List.nil_append, not_true_eq_false, if_false, if_true, is]
theorem w_open {L0 : Nat} {n f t sg hn bl : Int32} {ls : Int64} {us : List Int32} (h8 : w[8]? = some (wo L0 n f t sg hn bl ls v)) (hR : w[R]? = some (.inl (1, [.ref L, .int (nI S.length)]))) (hR8 : R ≠ 8) (hR9 : R < 1000) (hU : w[L]? = some (.inr (0, us))) (T : isLt w L S) (hL : L < 1000) (hne : L ≠ 8) (hul : S.length ≤ us.length ∧ us.length ≤ 1000) : ∃ c : ex_C, ex_call X 85 [.ref 8, .ref R] w = some (none, w.set 8 c) ∧ isWo (w.set 8 c) L S 0 v := by
  have p0 : ex_pf w 8 7 0 (.ref L) = some (w.set 8 (wo L n f t sg hn bl ls v)) := ex_pf_i h8 (Nat.le_of_ble_eq_true rfl)
  have o : ∀ c : ex_C, ∀ j, j ≠ 8 → (w.set 8 c)[j]? = w[j]? := fun c j h => List.getElem?_set_ne (Ne.symm h)
  have gR : ∀ c : ex_C, (w.set 8 c)[R]? = some (.inl (1, [.ref L, .int (nI S.length)])) := fun c => (o c R hR8).trans hR
  have gL : ∀ c : ex_C, (w.set 8 c)[L]? = some (.inr (0, us)) := fun c => (o c L hne).trans hU
  have p1 : ex_pf (w.set 8 (wo L n f t sg hn bl ls v)) 8 7 1 (.int (nI S.length)) = some (w.set 8 (wo L (nI S.length) f t sg hn bl ls v)) := by
    have : ex_pf (w.set 8 (wo L n f t sg hn bl ls v)) 8 7 1 (.int (nI S.length)) = some ((w.set 8 (wo L n f t sg hn bl ls v)).set 8 (wo L (nI S.length) f t sg hn bl ls v)) := ex_pf_i (ex_set_s h8) (Nat.le_of_ble_eq_true rfl)
    rw [List.set_set] at this
    exact this
  have e : ¬ nI us.length < nI S.length := nI_nlt hul.1 (by omega)
  have lo : ∀ c : ex_C, isLt (w.set 8 c) L S := fun c => lt_o T (o c L hne)
  obtain ⟨c, a1, a2⟩ := w_step0 (X := X) (w := w.set 8 (wo L (nI S.length) f 0 sg hn bl ls v)) (p := 0) hL hne (ex_set_s h8) (lo _) (Nat.zero_le _)
  rw [List.set_set] at a1 a2
  have rr : ex_rc (w.set 8 (wo L (nI S.length) f 0 sg hn bl ls v)) 8 7 = true := ex_rc_o (ex_set_s h8) (by decide) (by decide)
  have ln : ex_an (w.set 8 (wo L n f t sg hn bl ls v)) L = some (nI us.length) := ex_an_i (gL _)
  refine ⟨c, ?_, a2⟩
  show ex_go X 85 0 [(0, .ref 8), (1, .ref R)] [] w = _
  simp (disch := first | assumption | decide) only [s85_0, s85_1, s85_2, s85_5, s85_8, s85_9, s85_10, s85_13, s85_14, s85_17, s85_18, s85_21, s85_24, s85_25, s85_26, s85_29, s85_30, s85_33, ex_gf_i hR, List.getElem?_cons_zero, List.getElem?_cons_succ, Option.bind_some, Option.toList_some, Option.toList_none, List.cons_append, List.nil_append, not_true_eq_false, if_false, if_true, p0, ex_gf_i (gR _), ln, if_neg e, p1, wq3 h8, a1]
theorem c_makeFrom {J : Nat → Nat → Prop} (A : isMa w) (T : isTR w R L S) (E : isEn w L S) (hJ : lnJ S J) : (∀ M, parP S = .inr M → ∃ w2, ex_call X 41 [.ref 5, .ref R] w = some (some (.int (-1)), w2) ∧ isMd w w2 L S M ∧ M.length ≤ 120) ∧ (∀ f, parP S = .inl f → ∃ w2, ex_call X 41 [.ref 5, .ref R] w = some (some (.int (nI f)), w2) ∧ isMf w w2 L S f) := by
  obtain ⟨pt, cc, br, ic, hl, hr, cs, M, xs, L0, n, f, t, sg, hn, bl, l0, v, lss, nss, h5, R6, H6, x6, h8, B⟩ := A
  have hL := E.2.1
  have hR := T.2.1
  have hR9 := T.2.2
  obtain ⟨us, u1, u2, u3, _⟩ := E.1
  obtain ⟨c, a1, W1⟩ := w_open (X := X) h8 T.1 (by omega) T.2.2 u1 E.1 E.2.2 (by omega) ⟨u2.1, u3⟩
  have o : ∀ j, j ≠ 8 → (w.set 8 c)[j]? = w[j]? := fun j h => List.getElem?_set_ne (Ne.symm h)
  have K1 : isMk w (w.set 8 c) L S 0 v M pt cc br ic hl hr cs lss nss := ⟨List.length_set, fun j hj => o j (by omega), (o 5 (by decide)).trans h5, ⟨xs, ⟨(o 6 (by decide)).trans R6.1, (o 7 (by decide)).trans R6.2.1, R6.2.2⟩, H6, x6⟩, W1, lb_o B (fun j h1 h2 => o j (by omega))⟩
  have r5 : ex_rc w 5 4 = true := ex_rc_o h5 (by decide) (by decide)
  have r8 : ex_rc w 8 7 = true := ex_rc_o h8 (by decide) (by decide)
  have g5 : ∀ k, ex_gf w 5 4 k = [Value.ref 6, .ref 8, .ref 10, .int pt, .int cc, .int br, .int ic, .int hl, .int hr, .int cs][k]? := fun k => ex_gf_i h5
  have K2 := mk_set (pt2 := pt) (cc2 := cc) (br2 := br) (ic2 := 0) (hl2 := hl) (hr2 := hr) (cs2 := cs) K1
  have r52 := mk_r5 K2
  have fi := c_readFirst (X := X) E K2
  have wb := w_b (S := S) (p := 0) (Nat.zero_le _)
  have hd : ∀ r w2, ex_call X 42 [.ref 5] ((w.set 8 c).set 5 (mk pt cc br 0 hl hr cs)) = some (some (.int r), w2) → ex_call X 41 [.ref 5, .ref R] w = ex_go X 41 20 [(0, .ref 5), (1, .ref R), (2, .int r), (3, .int (nI 0))] [] w2 := by
    intro r w2 h
    show ex_go X 41 0 [(0, .ref 5), (1, .ref R)] [] w = _
    simp (disch := first | assumption | decide) only [s41_0, s41_1, s41_4, s41_5, s41_8, s41_9, s41_10, s41_13, s41_14, s41_17, s41_18, s41_19, g5, List.getElem?_cons_zero, List.getElem?_cons_succ, Option.bind_some, Option.toList_some, Option.toList_none, List.cons_append, List.nil_append, not_true_eq_false, if_false, if_true, a1, mk_p6 K1, h]
    rfl
  unfold parP
  by_cases cb : wd S 0 = txN 0
  · rw [if_pos cb]
    cases hN : rNum S 0 255 1 (wT S 0) 5 with
    | none =>
      obtain ⟨w2, a2, F2⟩ := fi.2.1 cb hN
      refine ⟨fun M z => (by cases z), fun g z => ?_⟩
      cases z
      exact ⟨w2, by rw [hd 0 w2 a2]; exact c_stop T F2, F2⟩
    | some ys =>
      obtain ⟨w2, v2, a2, K3⟩ := fi.1 ys cb hN
      have yl := rNum_len hN
      have wb2 := w_b wb.2.2.1
      have ml : (M0 (77 :: ys) []).length = 3 := by
        rw [M0_len, List.length_cons, yl.1]
        rfl
      have tp := c_topLoop (X := X) T E hJ (S.length + 1) 0 (wT S (wT S 0)) v2 (77 :: ys) 0 6 [] hl hr cs lss nss w2 (by omega) (Nat.zero_le _) wb2.2.2.1 (by rw [List.length_cons, yl.1]; exact K3) (by rw [ml]) (by decide) (by decide) (Nat.zero_le _)
      rw [hd 1 w2 a2]
      exact tp
  · rw [if_neg cb]
    refine ⟨fun M z => (by cases z), fun g z => ?_⟩
    cases z
    have F := mf_of K2 (Nat.zero_le _)
    exact ⟨_, by rw [hd 0 _ (fi.2.2 cb)]; exact c_stop T F, F⟩
theorem md_ma {M : List Nat} (h : isMd w0 w L S M) : isMa w := by
  obtain ⟨p, v, pt, cc, br, ic, hl, hr, cs, ls, ns, k1, k2, k3, ⟨xs, R, H, hx⟩, ⟨hn, bl, l0, k5, _⟩, k6⟩ := h
  exact ⟨_, _, _, _, _, _, _, M, xs, _, _, _, _, _, _, _, _, _, _, _, k3, R, H, hx, k5, k6⟩
theorem mf_ma {f : Nat} (h : isMf w0 w L S f) : isMa w := by
  obtain ⟨p, v, M, pt, cc, br, ic, hl, hr, cs, ls, ns, ⟨k1, k2, k3, ⟨xs, R, H, hx⟩, ⟨hn, bl, l0, k5, _⟩, k6⟩, _⟩ := h
  exact ⟨_, _, _, _, _, _, _, M, xs, _, _, _, _, _, _, _, _, _, _, _, k3, R, H, hx, k5, k6⟩
end MAKE2
