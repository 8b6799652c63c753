/-! texts: their length and characters, by the JDK's own methods -/
section EXZ
variable {X : Option (List Int32)} {mi pc : Nat} {L L2 : ex_L} {r : List Value} {w : ex_W}
theorem go_sval {idx h : Nat} (d : decode (kC mi) pc = .ok (.getfield idx, 3)) (hG : kG (kO mi) idx = some true) (ht : ex_tr mi (pc + 3) L = L2) (hs : 1001 ≤ h ∧ h < 1001 + nS) : ex_go X mi pc L (.ref h :: r) w = ex_go X mi (pc + 3) L2 (.ref (h + 1000) :: r) w := by
  refine ex_go_d d rfl ?_ ht
  simp only [ex_do]
  rw [if_neg (show ¬ h < 1000 by omega), if_pos hs, hG]
theorem go_scod {idx h : Nat} (d : decode (kC mi) pc = .ok (.getfield idx, 3)) (hG : kG (kO mi) idx = some false) (ht : ex_tr mi (pc + 3) L = L2) (hs : 1001 ≤ h ∧ h < 1001 + nS) : ex_go X mi pc L (.ref h :: r) w = ex_go X mi (pc + 3) L2 (.int 0 :: r) w := by
  refine ex_go_d d rfl ?_ ht
  simp only [ex_do]
  rw [if_neg (show ¬ h < 1000 by omega), if_pos hs, hG]
theorem go_salen {a : Nat} (d : decode (kC mi) pc = .ok (.arraylength, 1)) (ht : ex_tr mi (pc + 1) L = L2) (hs : 2001 ≤ a ∧ a < 2001 + nS) : ex_go X mi pc L (.ref a :: r) w = ex_go X mi (pc + 1) L2 (.int (nI (kX (a - 2001)).length) :: r) w := by
  refine ex_go_d d rfl ?_ ht
  simp only [ex_do]
  rw [if_neg (show ¬ a < 1000 by omega), if_neg (show ¬ a = 1000 by omega), if_pos hs]
  rfl
theorem go_sbald {a : Nat} {i : Int32} (d : decode (kC mi) pc = .ok (.baload, 1)) (ht : ex_tr mi (pc + 1) L = L2) (hs : 2001 ≤ a ∧ a < 2001 + nS) (hi : ¬ i < 0) : ex_go X mi pc L (.int i :: .ref a :: r) w = ((kX (a - 2001))[i.toNatClampNeg]?).bind (fun v => ex_go X mi (pc + 1) L2 (.int v :: r) w) := by
  cases hg : (kX (a - 2001))[i.toNatClampNeg]? with
  | none =>
    refine ex_go_none d rfl ?_
    simp only [ex_do]
    rw [if_neg (show ¬ a < 1000 by omega), if_pos (And.intro hs.1 (And.intro hs.2 hi)), hg]
  | some v =>
    refine ex_go_d d rfl ?_ ht
    simp only [ex_do]
    rw [if_neg (show ¬ a < 1000 by omega), if_pos (And.intro hs.1 (And.intro hs.2 hi)), hg]
theorem go_gst0 {idx : Nat} (d : decode (kC mi) pc = .ok (.getstatic idx, 3)) (hZ : kZ (kO mi) idx = some 0) (ht : ex_tr mi (pc + 3) L = L2) : ex_go X mi pc L r w = ex_go X mi (pc + 3) L2 (.int 1 :: r) w := by
  refine ex_go_d d rfl ?_ ht
  simp only [ex_do, hZ]
theorem go_gst1 {idx : Nat} (d : decode (kC mi) pc = .ok (.getstatic idx, 3)) (hZ : kZ (kO mi) idx = some 1) (ht : ex_tr mi (pc + 3) L = L2) : ex_go X mi pc L r w = ex_go X mi (pc + 3) L2 (.retAddr 0 :: r) w := by
  refine ex_go_d d rfl ?_ ht
  simp only [ex_do, hZ]
end EXZ
/-! rules by address, written by program -/
-- java/lang/String.length()I
theorem s169_0 {X : Option (List Int32)} {l0 : Nat} {r : List Value} {w : ex_W} : ex_go X 169 0 [(0, .ref l0)] r w = ex_go X 169 1 [(0, .ref l0)] (.ref l0 :: r) w := ex_go_d (by decide +kernel : decode (kC 169) 0 = .ok (.aload_n 0, 1)) rfl rfl (ex_tr_n (by decide +kernel))
theorem s169_1 {X : Option (List Int32)} {l0 : Nat} {r : List Value} {t0 : Nat} {w : ex_W} (hs : 1001 ≤ t0 ∧ t0 < 1001 + nS) : ex_go X 169 1 [(0, .ref l0)] (.ref t0 :: r) w = ex_go X 169 4 [(0, .ref l0)] (.ref (t0 + 1000) :: r) w := go_sval (by decide +kernel : decode (kC 169) 1 = .ok (.getfield 9, 3)) (by decide +kernel : kG (kO 169) 9 = some true) (ex_tr_n (by decide +kernel)) hs
theorem s169_4 {X : Option (List Int32)} {l0 : Nat} {r : List Value} {t0 : Nat} {w : ex_W} (hs : 2001 ≤ t0 ∧ t0 < 2001 + nS) : ex_go X 169 4 [(0, .ref l0)] (.ref t0 :: r) w = ex_go X 169 5 [(0, .ref l0)] (.int (nI (kX (t0 - 2001)).length) :: r) w := go_salen (by decide +kernel : decode (kC 169) 4 = .ok (.arraylength, 1)) (ex_tr_n (by decide +kernel)) hs
theorem s169_5 {X : Option (List Int32)} {l0 : Nat} {r : List Value} {w : ex_W} : ex_go X 169 5 [(0, .ref l0)] r w = ex_go X 169 6 [(0, .ref l0)] (.ref l0 :: r) w := ex_go_d (by decide +kernel : decode (kC 169) 5 = .ok (.aload_n 0, 1)) rfl rfl (ex_tr_n (by decide +kernel))
theorem s169_6 {X : Option (List Int32)} {l0 : Nat} {t0 : Nat} {t1 : Int32} {w : ex_W} (hr : ex_rc w t0 999 = true) : ex_go X 169 6 [(0, .ref l0)] [.ref t0, .int t1] w = (ex_call X 170 [.ref t0] w).bind (fun q => ex_go X 169 9 [(0, .ref l0)] (q.1.toList ++ [.int t1]) q.2) := go_virt (by decide +kernel : decode (kC 169) 6 = .ok (.invokevirtual 335, 3)) (by decide +kernel : kM (kO 169) 335 = some (170, 0)) (ex_pop_i (n := 1) (by decide +kernel) rfl) (ex_lv_i (n1 := 1) (n2 := 1) (by decide +kernel) rfl rfl) (ex_tr_n (by decide +kernel)) (ex_rc_i (by decide +kernel) hr)
theorem s169_9 {X : Option (List Int32)} {l0 : Nat} {r : List Value} {t0 t1 : Int32} {w : ex_W} : ex_go X 169 9 [(0, .ref l0)] (.int t0 :: .int t1 :: r) w = ex_go X 169 10 [(0, .ref l0)] (.int (t1 >>> (t0 &&& 31)) :: r) w := ex_go_d (by decide +kernel : decode (kC 169) 9 = .ok (.ishr, 1)) rfl rfl (ex_tr_n (by decide +kernel))
theorem s169_10 {X : Option (List Int32)} {l0 : Nat} {t0 : Int32} {w : ex_W} : ex_go X 169 10 [(0, .ref l0)] [.int t0] w = some (some (.int t0), w) := go_ireturn (by decide +kernel : decode (kC 169) 10 = .ok (.ireturn, 1)) (by decide +kernel : kR 169 = some .int) rfl
-- java/lang/String.coder()B
theorem s170_0 {X : Option (List Int32)} {l0 : Nat} {r : List Value} {w : ex_W} : ex_go X 170 0 [(0, .ref l0)] r w = ex_go X 170 3 [(0, .ref l0)] (.int 1 :: r) w := go_gst0 (by decide +kernel : decode (kC 170) 0 = .ok (.getstatic 38, 3)) (by decide +kernel : kZ (kO 170) 38 = some 0) (ex_tr_n (by decide +kernel))
theorem s170_3 {X : Option (List Int32)} {l0 : Nat} {r : List Value} {t0 : Int32} {w : ex_W} : ex_go X 170 3 [(0, .ref l0)] (.int t0 :: r) w = if t0 = 0 then ex_go X 170 13 [] r w else ex_go X 170 6 [(0, .ref l0)] r w := go_if_eq (t := 13) (by decide +kernel : decode (kC 170) 3 = .ok (.ifCond .eq 10, 3)) (by decide) (ex_tr_k (ks := []) (by decide +kernel) rfl) (ex_tr_n (by decide +kernel))
theorem s170_6 {X : Option (List Int32)} {l0 : Nat} {r : List Value} {w : ex_W} : ex_go X 170 6 [(0, .ref l0)] r w = ex_go X 170 7 [(0, .ref l0)] (.ref l0 :: r) w := ex_go_d (by decide +kernel : decode (kC 170) 6 = .ok (.aload_n 0, 1)) rfl rfl (ex_tr_n (by decide +kernel))
theorem s170_7 {X : Option (List Int32)} {l0 : Nat} {r : List Value} {t0 : Nat} {w : ex_W} (hs : 1001 ≤ t0 ∧ t0 < 1001 + nS) : ex_go X 170 7 [(0, .ref l0)] (.ref t0 :: r) w = ex_go X 170 10 [(0, .ref l0)] (.int 0 :: r) w := go_scod (by decide +kernel : decode (kC 170) 7 = .ok (.getfield 15, 3)) (by decide +kernel : kG (kO 170) 15 = some false) (ex_tr_n (by decide +kernel)) hs
theorem s170_10 {X : Option (List Int32)} {l0 : Nat} {r : List Value} {w : ex_W} : ex_go X 170 10 [(0, .ref l0)] r w = ex_go X 170 14 [] r w := go_goto (t := 14) (by decide +kernel : decode (kC 170) 10 = .ok (.goto 4, 3)) (by decide) (ex_tr_k (ks := []) (by decide +kernel) rfl)
theorem s170_13 {X : Option (List Int32)} {r : List Value} {w : ex_W} : ex_go X 170 13 [] r w = ex_go X 170 14 [] (.int 1 :: r) w := go_iconst (by decide +kernel : decode (kC 170) 13 = .ok (.iconst 1, 1)) (by decide +kernel) (ex_tr_k (ks := []) (by decide +kernel) rfl)
theorem s170_14 {X : Option (List Int32)} {t0 : Int32} {w : ex_W} (hb : narrow .byte (.int t0) = .int t0) : ex_go X 170 14 [] [.int t0] w = some (some (.int t0), w) := go_ireturn (by decide +kernel : decode (kC 170) 14 = .ok (.ireturn, 1)) (by decide +kernel : kR 170 = some .byte) hb
-- java/lang/String.charAt(I)C
theorem s171_0 {X : Option (List Int32)} {l0 : Nat} {l1 : Int32} {r : List Value} {w : ex_W} : ex_go X 171 0 [(0, .ref l0), (1, .int l1)] r w = ex_go X 171 1 [(0, .ref l0), (1, .int l1)] (.ref l0 :: r) w := ex_go_d (by decide +kernel : decode (kC 171) 0 = .ok (.aload_n 0, 1)) rfl rfl (ex_tr_n (by decide +kernel))
theorem s171_1 {X : Option (List Int32)} {l0 : Nat} {l1 : Int32} {t0 : Nat} {w : ex_W} (hr : ex_rc w t0 999 = true) : ex_go X 171 1 [(0, .ref l0), (1, .int l1)] [.ref t0] w = (ex_call X 172 [.ref t0] w).bind (fun q => ex_go X 171 4 [(0, .ref l0), (1, .int l1)] (q.1.toList ++ []) q.2) := go_virt (by decide +kernel : decode (kC 171) 1 = .ok (.invokevirtual 492, 3)) (by decide +kernel : kM (kO 171) 492 = some (172, 0)) (ex_pop_i (n := 1) (by decide +kernel) rfl) (ex_lv_i (n1 := 1) (n2 := 0) (by decide +kernel) rfl rfl) (ex_tr_n (by decide +kernel)) (ex_rc_i (by decide +kernel) hr)
theorem s171_4 {X : Option (List Int32)} {l0 : Nat} {l1 : Int32} {r : List Value} {t0 : Int32} {w : ex_W} : ex_go X 171 4 [(0, .ref l0), (1, .int l1)] (.int t0 :: r) w = if t0 = 0 then ex_go X 171 16 [(0, .ref l0), (1, .int l1)] r w else ex_go X 171 7 [(0, .ref l0), (1, .int l1)] r w := go_if_eq (t := 16) (by decide +kernel : decode (kC 171) 4 = .ok (.ifCond .eq 12, 3)) (by decide) (ex_tr_k (ks := [0, 1]) (by decide +kernel) rfl) (ex_tr_n (by decide +kernel))
theorem s171_7 {X : Option (List Int32)} {l0 : Nat} {l1 : Int32} {r : List Value} {w : ex_W} : ex_go X 171 7 [(0, .ref l0), (1, .int l1)] r w = ex_go X 171 8 [(0, .ref l0), (1, .int l1)] (.ref l0 :: r) w := ex_go_d (by decide +kernel : decode (kC 171) 7 = .ok (.aload_n 0, 1)) rfl rfl (ex_tr_n (by decide +kernel))
theorem s171_8 {X : Option (List Int32)} {l0 : Nat} {l1 : Int32} {r : List Value} {t0 : Nat} {w : ex_W} (hs : 1001 ≤ t0 ∧ t0 < 1001 + nS) : ex_go X 171 8 [(0, .ref l0), (1, .int l1)] (.ref t0 :: r) w = ex_go X 171 11 [(0, .ref l0), (1, .int l1)] (.ref (t0 + 1000) :: r) w := go_sval (by decide +kernel : decode (kC 171) 8 = .ok (.getfield 9, 3)) (by decide +kernel : kG (kO 171) 9 = some true) (ex_tr_n (by decide +kernel)) hs
theorem s171_11 {X : Option (List Int32)} {l0 : Nat} {l1 : Int32} {r : List Value} {w : ex_W} : ex_go X 171 11 [(0, .ref l0), (1, .int l1)] r w = ex_go X 171 12 [(0, .ref l0), (1, .int l1)] (.int l1 :: r) w := ex_go_d (by decide +kernel : decode (kC 171) 11 = .ok (.iload_n 1, 1)) rfl rfl (ex_tr_n (by decide +kernel))
theorem s171_12 {X : Option (List Int32)} {l0 : Nat} {l1 : Int32} {t0 : Int32} {t1 : Nat} {w : ex_W} : ex_go X 171 12 [(0, .ref l0), (1, .int l1)] [.int t0, .ref t1] w = (ex_call X 174 [.ref t1, .int t0] w).bind (fun q => ex_go X 171 15 [(0, .ref l0), (1, .int l1)] (q.1.toList ++ []) q.2) := go_stat (by decide +kernel : decode (kC 171) 12 = .ok (.invokestatic 495, 3)) (by decide +kernel : kM (kO 171) 495 = some (174, 1)) (ex_pop_i (n := 2) (by decide +kernel) rfl) (ex_lv_i (n1 := 2) (n2 := 0) (by decide +kernel) rfl rfl) (ex_tr_n (by decide +kernel))
theorem s171_15 {X : Option (List Int32)} {l0 : Nat} {l1 : Int32} {t0 : Int32} {w : ex_W} (hb : narrow .char (.int t0) = .int t0) : ex_go X 171 15 [(0, .ref l0), (1, .int l1)] [.int t0] w = some (some (.int t0), w) := go_ireturn (by decide +kernel : decode (kC 171) 15 = .ok (.ireturn, 1)) (by decide +kernel : kR 171 = some .char) hb
theorem s171_16 {X : Option (List Int32)} {l0 : Nat} {l1 : Int32} {r : List Value} {w : ex_W} : ex_go X 171 16 [(0, .ref l0), (1, .int l1)] r w = ex_go X 171 17 [(0, .ref l0), (1, .int l1)] (.ref l0 :: r) w := ex_go_d (by decide +kernel : decode (kC 171) 16 = .ok (.aload_n 0, 1)) rfl rfl (ex_tr_n (by decide +kernel))
theorem s171_17 {X : Option (List Int32)} {l0 : Nat} {l1 : Int32} {r : List Value} {t0 : Nat} {w : ex_W} (hs : 1001 ≤ t0 ∧ t0 < 1001 + nS) : ex_go X 171 17 [(0, .ref l0), (1, .int l1)] (.ref t0 :: r) w = ex_go X 171 20 [(0, .ref l0), (1, .int l1)] (.ref (t0 + 1000) :: r) w := go_sval (by decide +kernel : decode (kC 171) 17 = .ok (.getfield 9, 3)) (by decide +kernel : kG (kO 171) 9 = some true) (ex_tr_n (by decide +kernel)) hs
theorem s171_20 {X : Option (List Int32)} {l0 : Nat} {l1 : Int32} {r : List Value} {w : ex_W} : ex_go X 171 20 [(0, .ref l0), (1, .int l1)] r w = ex_go X 171 21 [(0, .ref l0), (1, .int l1)] (.int l1 :: r) w := ex_go_d (by decide +kernel : decode (kC 171) 20 = .ok (.iload_n 1, 1)) rfl rfl (ex_tr_n (by decide +kernel))
theorem s171_24 {X : Option (List Int32)} {l0 : Nat} {l1 : Int32} {t0 : Int32} {w : ex_W} (hb : narrow .char (.int t0) = .int t0) : ex_go X 171 24 [(0, .ref l0), (1, .int l1)] [.int t0] w = some (some (.int t0), w) := go_ireturn (by decide +kernel : decode (kC 171) 24 = .ok (.ireturn, 1)) (by decide +kernel : kR 171 = some .char) hb
-- java/lang/String.isLatin1()Z
theorem s172_0 {X : Option (List Int32)} {l0 : Nat} {r : List Value} {w : ex_W} : ex_go X 172 0 [(0, .ref l0)] r w = ex_go X 172 3 [(0, .ref l0)] (.int 1 :: r) w := go_gst0 (by decide +kernel : decode (kC 172) 0 = .ok (.getstatic 38, 3)) (by decide +kernel : kZ (kO 172) 38 = some 0) (ex_tr_n (by decide +kernel))
theorem s172_3 {X : Option (List Int32)} {l0 : Nat} {r : List Value} {t0 : Int32} {w : ex_W} : ex_go X 172 3 [(0, .ref l0)] (.int t0 :: r) w = if t0 = 0 then ex_go X 172 17 [] r w else ex_go X 172 6 [(0, .ref l0)] r w := go_if_eq (t := 17) (by decide +kernel : decode (kC 172) 3 = .ok (.ifCond .eq 14, 3)) (by decide) (ex_tr_k (ks := []) (by decide +kernel) rfl) (ex_tr_n (by decide +kernel))
theorem s172_6 {X : Option (List Int32)} {l0 : Nat} {r : List Value} {w : ex_W} : ex_go X 172 6 [(0, .ref l0)] r w = ex_go X 172 7 [(0, .ref l0)] (.ref l0 :: r) w := ex_go_d (by decide +kernel : decode (kC 172) 6 = .ok (.aload_n 0, 1)) rfl rfl (ex_tr_n (by decide +kernel))
theorem s172_7 {X : Option (List Int32)} {l0 : Nat} {r : List Value} {t0 : Nat} {w : ex_W} (hs : 1001 ≤ t0 ∧ t0 < 1001 + nS) : ex_go X 172 7 [(0, .ref l0)] (.ref t0 :: r) w = ex_go X 172 10 [(0, .ref l0)] (.int 0 :: r) w := go_scod (by decide +kernel : decode (kC 172) 7 = .ok (.getfield 15, 3)) (by decide +kernel : kG (kO 172) 15 = some false) (ex_tr_n (by decide +kernel)) hs
theorem s172_10 {X : Option (List Int32)} {l0 : Nat} {r : List Value} {t0 : Int32} {w : ex_W} : ex_go X 172 10 [(0, .ref l0)] (.int t0 :: r) w = if ¬ t0 = 0 then ex_go X 172 17 [] r w else ex_go X 172 13 [(0, .ref l0)] r w := go_if_ne (t := 17) (by decide +kernel : decode (kC 172) 10 = .ok (.ifCond .ne 7, 3)) (by decide) (ex_tr_k (ks := []) (by decide +kernel) rfl) (ex_tr_n (by decide +kernel))
theorem s172_13 {X : Option (List Int32)} {l0 : Nat} {r : List Value} {w : ex_W} : ex_go X 172 13 [(0, .ref l0)] r w = ex_go X 172 14 [(0, .ref l0)] (.int 1 :: r) w := go_iconst (by decide +kernel : decode (kC 172) 13 = .ok (.iconst 1, 1)) (by decide +kernel) (ex_tr_n (by decide +kernel))
theorem s172_14 {X : Option (List Int32)} {l0 : Nat} {r : List Value} {w : ex_W} : ex_go X 172 14 [(0, .ref l0)] r w = ex_go X 172 18 [] r w := go_goto (t := 18) (by decide +kernel : decode (kC 172) 14 = .ok (.goto 4, 3)) (by decide) (ex_tr_k (ks := []) (by decide +kernel) rfl)
theorem s172_17 {X : Option (List Int32)} {r : List Value} {w : ex_W} : ex_go X 172 17 [] r w = ex_go X 172 18 [] (.int 0 :: r) w := go_iconst (by decide +kernel : decode (kC 172) 17 = .ok (.iconst 0, 1)) (by decide +kernel) (ex_tr_k (ks := []) (by decide +kernel) rfl)
theorem s172_18 {X : Option (List Int32)} {t0 : Int32} {w : ex_W} (hb : t0 = 0 ∨ t0 = 1) : ex_go X 172 18 [] [.int t0] w = some (some (.int t0), w) := go_ireturn (by decide +kernel : decode (kC 172) 18 = .ok (.ireturn, 1)) (by decide +kernel : kR 172 = some .boolean) (ex_nz hb)
-- java/lang/String.checkIndex(II)V
theorem s173_0 {X : Option (List Int32)} {l0 : Int32} {l1 : Int32} {r : List Value} {w : ex_W} : ex_go X 173 0 [(0, .int l0), (1, .int l1)] r w = ex_go X 173 1 [(0, .int l0), (1, .int l1)] (.int l0 :: r) w := ex_go_d (by decide +kernel : decode (kC 173) 0 = .ok (.iload_n 0, 1)) rfl rfl (ex_tr_n (by decide +kernel))
theorem s173_1 {X : Option (List Int32)} {l0 : Int32} {l1 : Int32} {r : List Value} {w : ex_W} : ex_go X 173 1 [(0, .int l0), (1, .int l1)] r w = ex_go X 173 2 [(0, .int l0), (1, .int l1)] (.int l1 :: r) w := ex_go_d (by decide +kernel : decode (kC 173) 1 = .ok (.iload_n 1, 1)) rfl rfl (ex_tr_n (by decide +kernel))
theorem s173_2 {X : Option (List Int32)} {l0 : Int32} {l1 : Int32} {r : List Value} {w : ex_W} : ex_go X 173 2 [(0, .int l0), (1, .int l1)] r w = ex_go X 173 5 [(0, .int l0), (1, .int l1)] (.retAddr 0 :: r) w := go_gst1 (by decide +kernel : decode (kC 173) 2 = .ok (.getstatic 1053, 3)) (by decide +kernel : kZ (kO 173) 1053 = some 1) (ex_tr_n (by decide +kernel))
theorem s173_5 {X : Option (List Int32)} {l0 : Int32} {l1 : Int32} {t0 : Nat} {t1 : Int32} {t2 : Int32} {w : ex_W} : ex_go X 173 5 [(0, .int l0), (1, .int l1)] [.retAddr t0, .int t1, .int t2] w = (ex_call X 175 [.int t2, .int t1, .retAddr t0] w).bind (fun q => ex_go X 173 8 [(0, .int l0), (1, .int l1)] (q.1.toList ++ []) q.2) := go_stat (by decide +kernel : decode (kC 173) 5 = .ok (.invokestatic 1059, 3)) (by decide +kernel : kM (kO 173) 1059 = some (175, 1)) (ex_pop_i (n := 3) (by decide +kernel) rfl) (ex_lv_i (n1 := 3) (n2 := 0) (by decide +kernel) rfl rfl) (ex_tr_n (by decide +kernel))
theorem s173_8 {X : Option (List Int32)} {l0 : Int32} {l1 : Int32} {r : List Value} {t0 : Int32} {w : ex_W} : ex_go X 173 8 [(0, .int l0), (1, .int l1)] (.int t0 :: r) w = ex_go X 173 9 [(0, .int l0), (1, .int l1)] r w := ex_go_d (by decide +kernel : decode (kC 173) 8 = .ok (.pop, 1)) rfl rfl (ex_tr_n (by decide +kernel))
theorem s173_9 {X : Option (List Int32)} {l0 : Int32} {l1 : Int32} {w : ex_W} : ex_go X 173 9 [(0, .int l0), (1, .int l1)] [] w = some (none, w) := go_return (by decide +kernel : decode (kC 173) 9 = .ok (.return_, 1)) (by decide +kernel)
-- java/lang/StringLatin1.charAt([BI)C
theorem s174_0 {X : Option (List Int32)} {l0 : Nat} {l1 : Int32} {r : List Value} {w : ex_W} : ex_go X 174 0 [(0, .ref l0), (1, .int l1)] r w = ex_go X 174 1 [(0, .ref l0), (1, .int l1)] (.int l1 :: r) w := ex_go_d (by decide +kernel : decode (kC 174) 0 = .ok (.iload_n 1, 1)) rfl rfl (ex_tr_n (by decide +kernel))
theorem s174_1 {X : Option (List Int32)} {l0 : Nat} {l1 : Int32} {r : List Value} {w : ex_W} : ex_go X 174 1 [(0, .ref l0), (1, .int l1)] r w = ex_go X 174 2 [(0, .ref l0), (1, .int l1)] (.ref l0 :: r) w := ex_go_d (by decide +kernel : decode (kC 174) 1 = .ok (.aload_n 0, 1)) rfl rfl (ex_tr_n (by decide +kernel))
theorem s174_2 {X : Option (List Int32)} {l0 : Nat} {l1 : Int32} {r : List Value} {t0 : Nat} {w : ex_W} (hs : 2001 ≤ t0 ∧ t0 < 2001 + nS) : ex_go X 174 2 [(0, .ref l0), (1, .int l1)] (.ref t0 :: r) w = ex_go X 174 3 [(0, .ref l0), (1, .int l1)] (.int (nI (kX (t0 - 2001)).length) :: r) w := go_salen (by decide +kernel : decode (kC 174) 2 = .ok (.arraylength, 1)) (ex_tr_n (by decide +kernel)) hs
theorem s174_3 {X : Option (List Int32)} {l0 : Nat} {l1 : Int32} {t0 : Int32} {t1 : Int32} {w : ex_W} : ex_go X 174 3 [(0, .ref l0), (1, .int l1)] [.int t0, .int t1] w = (ex_call X 173 [.int t1, .int t0] w).bind (fun q => ex_go X 174 6 [(0, .ref l0), (1, .int l1)] (q.1.toList ++ []) q.2) := go_stat (by decide +kernel : decode (kC 174) 3 = .ok (.invokestatic 9, 3)) (by decide +kernel : kM (kO 174) 9 = some (173, 1)) (ex_pop_i (n := 2) (by decide +kernel) rfl) (ex_lv_i (n1 := 2) (n2 := 0) (by decide +kernel) rfl rfl) (ex_tr_n (by decide +kernel))
theorem s174_6 {X : Option (List Int32)} {l0 : Nat} {l1 : Int32} {r : List Value} {w : ex_W} : ex_go X 174 6 [(0, .ref l0), (1, .int l1)] r w = ex_go X 174 7 [(0, .ref l0), (1, .int l1)] (.ref l0 :: r) w := ex_go_d (by decide +kernel : decode (kC 174) 6 = .ok (.aload_n 0, 1)) rfl rfl (ex_tr_n (by decide +kernel))
theorem s174_7 {X : Option (List Int32)} {l0 : Nat} {l1 : Int32} {r : List Value} {w : ex_W} : ex_go X 174 7 [(0, .ref l0), (1, .int l1)] r w = ex_go X 174 8 [(0, .ref l0), (1, .int l1)] (.int l1 :: r) w := ex_go_d (by decide +kernel : decode (kC 174) 7 = .ok (.iload_n 1, 1)) rfl rfl (ex_tr_n (by decide +kernel))
theorem s174_8 {X : Option (List Int32)} {l0 : Nat} {l1 : Int32} {r : List Value} {t0 : Int32} {t1 : Nat} {w : ex_W} (hs : 2001 ≤ t1 ∧ t1 < 2001 + nS) (hi : ¬ t0 < 0) : ex_go X 174 8 [(0, .ref l0), (1, .int l1)] (.int t0 :: .ref t1 :: r) w = ((kX (t1 - 2001))[t0.toNatClampNeg]?).bind (fun v => ex_go X 174 9 [(0, .ref l0), (1, .int l1)] (.int v :: r) w) := go_sbald (by decide +kernel : decode (kC 174) 8 = .ok (.baload, 1)) (ex_tr_n (by decide +kernel)) hs hi
theorem s174_9 {X : Option (List Int32)} {l0 : Nat} {l1 : Int32} {r : List Value} {w : ex_W} : ex_go X 174 9 [(0, .ref l0), (1, .int l1)] r w = ex_go X 174 12 [(0, .ref l0), (1, .int l1)] (.int 255 :: r) w := go_sipush (by decide +kernel : decode (kC 174) 9 = .ok (.sipush 255, 3)) (by decide +kernel) (ex_tr_n (by decide +kernel))
theorem s174_12 {X : Option (List Int32)} {l0 : Nat} {l1 : Int32} {r : List Value} {t0 t1 : Int32} {w : ex_W} : ex_go X 174 12 [(0, .ref l0), (1, .int l1)] (.int t0 :: .int t1 :: r) w = ex_go X 174 13 [(0, .ref l0), (1, .int l1)] (.int (t1 &&& t0) :: r) w := ex_go_d (by decide +kernel : decode (kC 174) 12 = .ok (.iand, 1)) rfl rfl (ex_tr_n (by decide +kernel))
theorem s174_13 {X : Option (List Int32)} {l0 : Nat} {l1 : Int32} {r : List Value} {t0 : Int32} {w : ex_W} : ex_go X 174 13 [(0, .ref l0), (1, .int l1)] (.int t0 :: r) w = ex_go X 174 14 [(0, .ref l0), (1, .int l1)] (.int (t0.toUInt32 % 65536).toInt32 :: r) w := ex_go_d (by decide +kernel : decode (kC 174) 13 = .ok (.i2c, 1)) rfl rfl (ex_tr_n (by decide +kernel))
theorem s174_14 {X : Option (List Int32)} {l0 : Nat} {l1 : Int32} {t0 : Int32} {w : ex_W} (hb : narrow .char (.int t0) = .int t0) : ex_go X 174 14 [(0, .ref l0), (1, .int l1)] [.int t0] w = some (some (.int t0), w) := go_ireturn (by decide +kernel : decode (kC 174) 14 = .ok (.ireturn, 1)) (by decide +kernel : kR 174 = some .char) hb
-- jdk/internal/util/Preconditions.checkIndex(IILjava/util/function/BiFunction;)I
theorem s175_0 {X : Option (List Int32)} {l0 : Int32} {l1 : Int32} {l2 : Nat} {r : List Value} {w : ex_W} : ex_go X 175 0 [(0, .int l0), (1, .int l1), (2, .retAddr l2)] r w = ex_go X 175 1 [(0, .int l0), (1, .int l1), (2, .retAddr l2)] (.int l0 :: r) w := ex_go_d (by decide +kernel : decode (kC 175) 0 = .ok (.iload_n 0, 1)) rfl rfl (ex_tr_n (by decide +kernel))
theorem s175_1 {X : Option (List Int32)} {l0 : Int32} {l1 : Int32} {l2 : Nat} {r : List Value} {t0 : Int32} {w : ex_W} : ex_go X 175 1 [(0, .int l0), (1, .int l1), (2, .retAddr l2)] (.int t0 :: r) w = if t0 < 0 then ex_go X 175 9 [(0, .int l0), (1, .int l1), (2, .retAddr l2)] r w else ex_go X 175 4 [(0, .int l0), (1, .int l1), (2, .retAddr l2)] r w := go_if_lt (t := 9) (by decide +kernel : decode (kC 175) 1 = .ok (.ifCond .lt 8, 3)) (by decide) (ex_tr_k (ks := [0, 1, 2]) (by decide +kernel) rfl) (ex_tr_n (by decide +kernel))
theorem s175_4 {X : Option (List Int32)} {l0 : Int32} {l1 : Int32} {l2 : Nat} {r : List Value} {w : ex_W} : ex_go X 175 4 [(0, .int l0), (1, .int l1), (2, .retAddr l2)] r w = ex_go X 175 5 [(0, .int l0), (1, .int l1), (2, .retAddr l2)] (.int l0 :: r) w := ex_go_d (by decide +kernel : decode (kC 175) 4 = .ok (.iload_n 0, 1)) rfl rfl (ex_tr_n (by decide +kernel))
theorem s175_5 {X : Option (List Int32)} {l0 : Int32} {l1 : Int32} {l2 : Nat} {r : List Value} {w : ex_W} : ex_go X 175 5 [(0, .int l0), (1, .int l1), (2, .retAddr l2)] r w = ex_go X 175 6 [(0, .int l0), (1, .int l1), (2, .retAddr l2)] (.int l1 :: r) w := ex_go_d (by decide +kernel : decode (kC 175) 5 = .ok (.iload_n 1, 1)) rfl rfl (ex_tr_n (by decide +kernel))
theorem s175_6 {X : Option (List Int32)} {l0 : Int32} {l1 : Int32} {l2 : Nat} {r : List Value} {t0 t1 : Int32} {w : ex_W} : ex_go X 175 6 [(0, .int l0), (1, .int l1), (2, .retAddr l2)] (.int t0 :: .int t1 :: r) w = if t1 < t0 then ex_go X 175 16 [(0, .int l0)] r w else ex_go X 175 9 [(0, .int l0), (1, .int l1), (2, .retAddr l2)] r w := go_icmp_lt (t := 16) (by decide +kernel : decode (kC 175) 6 = .ok (.if_icmp .lt 10, 3)) (by decide) (ex_tr_k (ks := [0]) (by decide +kernel) rfl) (ex_tr_k (ks := [0, 1, 2]) (by decide +kernel) rfl)
theorem s175_10 {X : Option (List Int32)} {l0 : Int32} {l1 : Int32} {l2 : Nat} {r : List Value} {w : ex_W} : ex_go X 175 10 [(0, .int l0), (1, .int l1), (2, .retAddr l2)] r w = ex_go X 175 11 [(0, .int l0), (1, .int l1), (2, .retAddr l2)] (.int l0 :: r) w := ex_go_d (by decide +kernel : decode (kC 175) 10 = .ok (.iload_n 0, 1)) rfl rfl (ex_tr_n (by decide +kernel))
theorem s175_11 {X : Option (List Int32)} {l0 : Int32} {l1 : Int32} {l2 : Nat} {r : List Value} {w : ex_W} : ex_go X 175 11 [(0, .int l0), (1, .int l1), (2, .retAddr l2)] r w = ex_go X 175 12 [(0, .int l0), (1, .int l1), (2, .retAddr l2)] (.int l1 :: r) w := ex_go_d (by decide +kernel : decode (kC 175) 11 = .ok (.iload_n 1, 1)) rfl rfl (ex_tr_n (by decide +kernel))
theorem s175_16 {X : Option (List Int32)} {l0 : Int32} {r : List Value} {w : ex_W} : ex_go X 175 16 [(0, .int l0)] r w = ex_go X 175 17 [(0, .int l0)] (.int l0 :: r) w := ex_go_d (by decide +kernel : decode (kC 175) 16 = .ok (.iload_n 0, 1)) rfl rfl (ex_tr_n (by decide +kernel))
theorem s175_17 {X : Option (List Int32)} {l0 : Int32} {t0 : Int32} {w : ex_W} : ex_go X 175 17 [(0, .int l0)] [.int t0] w = some (some (.int t0), w) := go_ireturn (by decide +kernel : decode (kC 175) 17 = .ok (.ireturn, 1)) (by decide +kernel : kR 175 = some .int) rfl
theorem kX_ok : ∀ j, j < 33 → ((kX j).length < 100 ∧ ∀ i, i < (kX j).length → ((((kX j).getD i 0) &&& 255).toUInt32 % 65536).toInt32 = (kX j).getD i 0) := by decide +kernel
section STR
variable {X : Option (List Int32)} {w : ex_W} {j i : Nat}
theorem t_rc (hj : j < 33) : ex_rc w (1001 + j) 999 = true := by
  unfold ex_rc
  rw [if_pos rfl]
  exact decide_eq_true ⟨by omega, by show 1001 + j < 1001 + 33; omega⟩
theorem t_coder (hj : j < 33) : ex_call X 170 [.ref (1001 + j)] w = some (some (.int 0), w) := by
  have hs : 1001 ≤ 1001 + j ∧ 1001 + j < 1001 + nS := ⟨by omega, by show 1001 + j < 1001 + 33; omega⟩
  have e : ¬ (1 : Int32) = 0 := by decide
  show ex_go X 170 0 [(0, .ref (1001 + j))] [] w = _
  simp only [s170_0, s170_3, if_neg e, s170_6, s170_7 hs, s170_10]
  exact s170_14 rfl
theorem t_latin (hj : j < 33) : ex_call X 172 [.ref (1001 + j)] w = some (some (.int 1), w) := by
  have hs : 1001 ≤ 1001 + j ∧ 1001 + j < 1001 + nS := ⟨by omega, by show 1001 + j < 1001 + 33; omega⟩
  have e : ¬ (1 : Int32) = 0 := by decide
  show ex_go X 172 0 [(0, .ref (1001 + j))] [] w = _
  simp only [s172_0, s172_3, if_neg e, s172_6, s172_7 hs, s172_10, not_true_eq_false, if_false, s172_13, s172_14]
  exact s172_18 (Or.inr rfl)
theorem t_length (hj : j < 33) : ex_call X 169 [.ref (1001 + j)] w = some (some (.int (nI (kX j).length)), w) := by
  have hs : 1001 ≤ 1001 + j ∧ 1001 + j < 1001 + nS := ⟨by omega, by show 1001 + j < 1001 + 33; omega⟩
  have hs2 : 2001 ≤ 1001 + j + 1000 ∧ 1001 + j + 1000 < 2001 + nS := ⟨by omega, by show 1001 + j + 1000 < 2001 + 33; omega⟩
  have e1 : 1001 + j + 1000 - 2001 = j := by omega
  show ex_go X 169 0 [(0, .ref (1001 + j))] [] w = _
  simp only [s169_0, s169_1 hs, s169_4 hs2, e1, s169_5, s169_6 (t_rc hj), t_coder hj, Option.bind_some, Option.toList_some, List.cons_append, List.nil_append, s169_9, s169_10, sb_shr0]
theorem t_check {a b : Nat} (h : a < b) (hb : b < 2 ^ 31) : ex_call X 173 [.int (nI a), .int (nI b)] w = some (none, w) := by
  have c : ex_call X 175 [.int (nI a), .int (nI b), .retAddr 0] w = some (some (.int (nI a)), w) := by
    show ex_go X 175 0 [(0, .int (nI a)), (1, .int (nI b)), (2, .retAddr 0)] [] w = _
    simp only [s175_0, s175_1, if_neg (nI_pos (show a < 2 ^ 31 by omega)), s175_4, s175_5, s175_6, if_pos (nI_lt h hb), s175_16, s175_17]
  show ex_go X 173 0 [(0, .int (nI a)), (1, .int (nI b))] [] w = _
  simp only [s173_0, s173_1, s173_2, s173_5, c, Option.bind_some, Option.toList_some, List.cons_append, List.nil_append, s173_8, s173_9]
theorem t_charAt (hj : j < 33) (hi : i < (kX j).length) : ex_call X 171 [.ref (1001 + j), .int (nI i)] w = some (some (.int ((kX j).getD i 0)), w) := by
  have hs : 1001 ≤ 1001 + j ∧ 1001 + j < 1001 + nS := ⟨by omega, by show 1001 + j < 1001 + 33; omega⟩
  have hs2 : 2001 ≤ 1001 + j + 1000 ∧ 1001 + j + 1000 < 2001 + nS := ⟨by omega, by show 1001 + j + 1000 < 2001 + 33; omega⟩
  have e1 : 1001 + j + 1000 - 2001 = j := by omega
  have e : ¬ (1 : Int32) = 0 := by decide
  obtain ⟨k1, k2⟩ := kX_ok j hj
  have kk := k2 i hi
  have nn : narrow .char (.int ((kX j).getD i 0)) = .int ((kX j).getD i 0) := by
    rw [← kk]
    exact pk_nc _
  have g : (kX j)[(nI i).toNatClampNeg]? = some ((kX j).getD i 0) := by
    rw [nI_clamp (by omega), List.getD_eq_getElem?_getD, List.getElem?_eq_getElem hi]
    rfl
  have c : ex_call X 174 [.ref (1001 + j + 1000), .int (nI i)] w = some (some (.int ((kX j).getD i 0)), w) := by
    show ex_go X 174 0 [(0, .ref (1001 + j + 1000)), (1, .int (nI i))] [] w = _
    simp only [s174_0, s174_1, s174_2 hs2, e1, s174_3, t_check hi (by omega), Option.bind_some, Option.toList_none, List.nil_append, s174_6, s174_7, s174_8 hs2 (nI_pos (show i < 2 ^ 31 by omega)), g, s174_9, s174_12, s174_13, kk, s174_14 nn]
  show ex_go X 171 0 [(0, .ref (1001 + j)), (1, .int (nI i))] [] w = _
  simp only [s171_0, s171_1 (t_rc hj), t_latin hj, Option.bind_some, Option.toList_some, List.cons_append, List.nil_append, s171_4, if_neg e, s171_7, s171_8 hs, s171_11, s171_12, c, s171_15 nn]
end STR
