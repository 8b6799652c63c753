/-! one call on fresh objects -/
def ex_is (w : ex_W) (i : Nat) (c : ex_C) : Bool := match w[i]? with
  | some d => ex_eqC d c
  | none => false
theorem ex_is_s {w : ex_W} {i : Nat} {c : ex_C} (h : ex_is w i c = true) : w[i]? = some c := by
  unfold ex_is at h
  split at h
  next d hd => rw [hd, ex_eqC_s h]
  next => cases h
/-- a call on both whose arguments are numbers that are known: run it -/
def prB (mc mm : Nat) (av : List Value) (w : ex_W) : Bool := ex_rc w 0 0 && match ex_run none 20000 mc 0 (lv_args 0 (.ref 0 :: av)) [] w with
  | some (some (.int r), w1) => ex_rc w1 32 8 && match ex_run none 20000 mm 0 (lv_args 0 (.ref 32 :: av)) [] w1 with
    | some (some (.int r2), w2) => decide (r = r2) && decide (w2.length = 46)
    | _ => false
  | _ => false
theorem prB_s {mc mm : Nat} {av : List Value} {w : ex_W} (h : prB mc mm av w = true) : pr mc mm av w (fun w => w.length = 46) := by
  unfold prB at h
  obtain ⟨h1, h2⟩ := (Bool.and_eq_true _ _).mp h
  split at h2
  next r w1 e1 =>
    obtain ⟨h3, h4⟩ := (Bool.and_eq_true _ _).mp h2
    split at h4
    next r2 w2 e2 =>
      obtain ⟨h5, h6⟩ := (Bool.and_eq_true _ _).mp h4
      have e : r = r2 := of_decide_eq_true h5
      subst e
      exact ⟨r, w1, w2, h1, ex_call_run 20000 e1, h3, ex_call_run 20000 e2, of_decide_eq_true h6⟩
    next => cases h4
  next => cases h2
def m0 : Nat → Int32 := fun k => if k = 1 then 6 else if k = 9 then 8 else 0
theorem w0_0 : ex_w0[0]? = some (.inl (0, [.ref 1, .ref 3, .ref 5, .ref 15, .ref 22, .ref 27])) := ex_is_s (by decide +kernel)
theorem w0_32 : ex_w0[32]? = some (.inl (8, mo m0 0)) := ex_is_s (by decide +kernel)
theorem w0_wait : isRow ex_w0 1 2 (List.replicate 124 0) 0 := ⟨ex_is_s (by decide +kernel), ex_is_s (by decide +kernel), by decide +kernel, by decide +kernel, by decide, by decide⟩
theorem w0_typed : isRow ex_w0 3 4 (List.replicate 200 0) 0 := ⟨ex_is_s (by decide +kernel), ex_is_s (by decide +kernel), by decide +kernel, by decide +kernel, by decide, by decide⟩
theorem w0_35 : ex_w0[35]? = some (.inr (0, List.replicate 124 0)) := ex_is_s (by decide +kernel)
theorem w0_36 : ex_w0[36]? = some (.inr (0, List.replicate 200 0)) := ex_is_s (by decide +kernel)
theorem w0_r0 : ex_rc ex_w0 0 0 = true := by decide +kernel
theorem w0_r32 : ex_rc ex_w0 32 8 = true := by decide +kernel
theorem one_put (a b : Int32) : pr 2 128 [.int a, .int b] ex_w0 (fun w => w.length = 46) := by
  by_cases hf : fitsIn 0 124 b
  · obtain ⟨k, k1, k4, rfl⟩ := four hf.1 hf.2.1
    refine ⟨1, _, _, w0_r0, x_putYes w0_0 w0_wait k1 k4 (by omega) rfl, ?_, y_putYes (n := 0) (m := m0) (v := 0) ((rowW_o (by decide) (by decide)).trans w0_32) ((rowW_o (by decide) (by decide)).trans w0_35) rfl rfl k1 k4 (by omega), ?_⟩
    · exact ex_rc_o ((rowW_o (by decide) (by decide)).trans w0_32) (by decide) (by decide)
    · show (mW _ _ _ _ _).length = 46
      rw [mW_len, rowW_len]
      exact ex_sl0.2
  · exact ⟨0, _, _, w0_r0, x_putNo w0_0 w0_wait hf, w0_r32, y_putNo (n := 0) w0_32 rfl hf, ex_sl0.2⟩
theorem one_type (a b : Int32) : pr 5 134 [.int a, .int b] ex_w0 (fun w => w.length = 46) := by
  by_cases hf : fitsIn 0 200 b ∧ ∀ k : Nat, b = nI k → k ≤ 4 → allCh a 0 k
  · obtain ⟨k, k1, k4, rfl⟩ := four hf.1.1 hf.1.2.1
    have ha := hf.2 k rfl k4
    refine ⟨1, _, _, w0_r0, x_typeYes w0_0 w0_typed k1 k4 (by omega) rfl ha, ?_, y_typeYes (n := 0) (m := m0) (v := 0) ((rowW_o (by decide) (by decide)).trans w0_32) ((rowW_o (by decide) (by decide)).trans w0_36) rfl rfl k1 k4 (by omega) ha, ?_⟩
    · exact ex_rc_o ((rowW_o (by decide) (by decide)).trans w0_32) (by decide) (by decide)
    · show (mW _ _ _ _ _).length = 46
      rw [mW_len, rowW_len]
      exact ex_sl0.2
  · exact ⟨0, _, _, w0_r0, x_typeNo w0_0 w0_typed hf, w0_r32, y_typeNo (n := 0) w0_32 rfl hf, ex_sl0.2⟩
theorem w0_22 : ex_w0[22]? = some (.inl (2, [.ref 23, .ref 25, .ref 26])) := ex_is_s (by decide +kernel)
theorem w0_15 : ex_w0[15]? = some (.inl (6, [.ref 16, .ref 18, .ref 20])) := ex_is_s (by decide +kernel)
theorem w0_bytes : isRow ex_w0 23 24 (77 :: List.replicate 123 0) 6 := ⟨ex_is_s (by decide +kernel), ex_is_s (by decide +kernel), by decide +kernel, by decide +kernel, by decide, by decide⟩
theorem w0_text : isRow ex_w0 16 17 ([98, 108, 111, 99, 107, 32, 48, 10] ++ List.replicate 800 0) 8 := ⟨ex_is_s (by decide +kernel), ex_is_s (by decide +kernel), by decide +kernel, by decide +kernel, by decide, by decide⟩
theorem w0_33 : ex_w0[33]? = some (.inr (0, 77 :: List.replicate 129 0)) := ex_is_s (by decide +kernel)
theorem w0_37 : ex_w0[37]? = some (.inr (0, [98, 108, 111, 99, 107, 32, 48, 10] ++ List.replicate 992 0)) := ex_is_s (by decide +kernel)
theorem one_byteAt (i : Int32) : pr 9 161 [.int i] ex_w0 (fun w => w.length = 46) := by
  refine ⟨_, _, _, w0_r0, x_byteAt w0_0 w0_22 (by decide) w0_bytes, w0_r32, ?_, ex_sl0.2⟩
  rw [y_byteAt (n := 6) w0_32 w0_33 rfl (by decide +kernel) (by decide +kernel)]
  rw [rowAt_congr (xs := 77 :: List.replicate 129 0) (ys := 77 :: List.replicate 123 0) (by decide +kernel) (by decide)]
theorem one_at (i : Int32) : pr 11 163 [.int i] ex_w0 (fun w => w.length = 46) := by
  refine ⟨_, _, _, w0_r0, x_at w0_0 w0_15 w0_text, w0_r32, ?_, ex_sl0.2⟩
  rw [y_at (n := 8) w0_32 w0_37 rfl (by decide +kernel) (by decide +kernel)]
  rw [rowAt_congr (xs := [98, 108, 111, 99, 107, 32, 48, 10] ++ List.replicate 992 0) (ys := [98, 108, 111, 99, 107, 32, 48, 10] ++ List.replicate 800 0) (by decide +kernel) (by decide)]
theorem one_count (i : Int32) : pr 12 164 [.int i] ex_w0 (fun w => w.length = 46) := by
  by_cases c1 : i < 0
  · refine ⟨-1, ex_w0, ex_w0, w0_r0, ?_, w0_r32, ?_, ex_sl0.2⟩
    · show ex_go none 12 0 [(0, .ref 0), (1, .int i)] [] ex_w0 = _
      simp only [s12_0, s12_1, if_pos c1, s12_9, s12_10, s12_21]
    · show ex_go none 164 0 [(0, .ref 32), (1, .int i)] [] ex_w0 = _
      simp only [s164_0, s164_1, if_pos c1, s164_9, s164_10, s164_23]
  · by_cases c2 : i < 4
    · obtain ⟨j, hj, rfl⟩ := nI_of c1
      have hj4 : j < 4 := by
        rcases Nat.lt_or_ge j 4 with z | z
        · exact z
        · exact absurd c2 (nI_nlt (b := 4) z hj)
      have all : ∀ j, j < 4 → prB 12 164 [.int (nI j)] ex_w0 = true := by decide +kernel
      exact prB_s (all j hj4)
    · refine ⟨-1, ex_w0, ex_w0, w0_r0, ?_, w0_r32, ?_, ex_sl0.2⟩
      · show ex_go none 12 0 [(0, .ref 0), (1, .int i)] [] ex_w0 = _
        simp only [s12_0, s12_1, if_neg c1, s12_4, s12_5, s12_6, if_neg c2, s12_9, s12_10, s12_21]
      · have c3 : ¬ i ≤ 3 := by
          rw [Int32.le_iff_toInt_le]
          rw [Int32.lt_iff_toInt_lt] at c2
          have e3 : (3 : Int32).toInt = 3 := by decide
          have e4 : (4 : Int32).toInt = 4 := by decide
          omega
        show ex_go none 164 0 [(0, .ref 32), (1, .int i)] [] ex_w0 = _
        simp only [s164_0, s164_1, if_neg c1, s164_4, s164_5, s164_6, if_neg c3, s164_9, s164_10, s164_23]
theorem w0_howMany : ex_call none 31 [.ref 22, .int 2] ex_w0 = some (some (.int 0), ex_w0) := ex_call_run 2000 (ex_chk_s (by decide +kernel))
theorem w0_count2 : ex_call none 164 [.ref 32, .int 2] ex_w0 = some (some (.int 0), ex_w0) := ex_call_run 2000 (ex_chk_s (by decide +kernel))
theorem one_clear (i : Int32) : pr 13 167 [.int i] ex_w0 (fun w => w.length = 46) := by
  have z1 : (0 : Nat) < 1000 := by decide
  have z2 : (32 : Nat) < 1000 := by decide
  by_cases c1 : i < 0
  · refine ⟨-1, ex_w0, ex_w0, w0_r0, ?_, w0_r32, ?_, ex_sl0.2⟩
    · show ex_go none 13 0 [(0, .ref 0), (1, .int i)] [] ex_w0 = _
      simp only [s13_0, s13_1, if_pos c1, s13_16, s13_17]
    · show ex_go none 167 0 [(0, .ref 32), (1, .int i)] [] ex_w0 = _
      simp only [s167_0, s167_1, if_pos c1, s167_13, s167_14]
  · refine ⟨-1, ex_w0, ex_w0, w0_r0, ?_, w0_r32, ?_, ex_sl0.2⟩
    · show ex_go none 13 0 [(0, .ref 0), (1, .int i)] [] ex_w0 = _
      simp only [s13_0, s13_1, if_neg c1, s13_4, s13_5, s13_6 z1, ex_gf_i w0_0, List.getElem?_cons_zero, List.getElem?_cons_succ, Option.bind_some, s13_9, s13_10 (ex_rc_o w0_22 (by decide) (by decide)), w0_howMany, Option.toList_some, List.cons_append, List.nil_append, s13_13, s13_16, s13_17]
    · show ex_go none 167 0 [(0, .ref 32), (1, .int i)] [] ex_w0 = _
      simp only [s167_0, s167_1, if_neg c1, s167_4, s167_5, s167_6, s167_7 w0_r32, w0_count2, Option.bind_some, Option.toList_some, List.cons_append, List.nil_append, s167_10, s167_13, s167_14]
set_option maxRecDepth 100000 in
theorem one_take : pr 3 129 [] ex_w0 (fun w => w.length = 46) := prB_s (by decide +kernel)
set_option maxRecDepth 100000 in
theorem one_make : pr 7 135 [] ex_w0 (fun w => w.length = 46) := prB_s (by decide +kernel)
def ex_wE : ex_W := (((ex_w0.set 5 (.inl (4, [.ref 6, .ref 8, .ref 10, .int 3, .int 5, .int 6, .int 0, .int 0, .int 0, .int 0]))).set 6 (.inl (1, [.ref 7, .int 6]))).set 7 (.inr (0, 77 :: List.replicate 119 0))).set 8 (.inl (7, [.ref 17, .int 8, .int 8, .int 8, .int 0, .int 0, .int 0, .long 0, .long 0]))
set_option maxRecDepth 100000 in
theorem one_exactC : ex_run none 20000 14 0 (lv_args 0 [.ref 0]) [] ex_w0 = some (some (.int 1), ex_wE) := ex_chk_s (by decide +kernel)
def ex_one (o : ex_O) : Bool := match o with
  | some (some (.int r), w2) => decide (r = 1) && decide (w2.length = 46)
  | _ => false
set_option maxRecDepth 100000 in
theorem one_exactM : ex_one (ex_run none 20000 168 0 (lv_args 0 [.ref 32]) [] ex_wE) = true := by decide +kernel
theorem one_exact : pr 14 168 [] ex_w0 (fun w => w.length = 46) := by
  have h := one_exactM
  unfold ex_one at h
  split at h
  next r w2 e2 =>
    obtain ⟨h5, h6⟩ := (Bool.and_eq_true _ _).mp h
    have e : r = 1 := of_decide_eq_true h5
    subst e
    exact ⟨1, ex_wE, w2, w0_r0, ex_call_run 20000 one_exactC, by decide +kernel, ex_call_run 20000 e2, of_decide_eq_true h6⟩
  next => cases h
theorem one_size : pr 8 160 [] ex_w0 (fun w => w.length = 46) := prB_s (by decide +kernel)
theorem one_length : pr 10 162 [] ex_w0 (fun w => w.length = 46) := prB_s (by decide +kernel)
def I1 : Nat → ex_W → Prop
  | 0, w => w.length = 46
  | 1, w => w = ex_w0
  | _, _ => False
theorem I1_step : ∀ k, StepOK (I1 (k + 1)) (I1 k) := by
  intro k w hw
  cases k with
  | zero =>
    have e : w = ex_w0 := hw
    subst e
    exact ⟨one_put, one_take, one_type, one_make, one_size, one_byteAt, one_length, one_at, one_count, one_clear, one_exact, ex_sl0.2⟩
  | succ k => exact absurd hw id
theorem I1_len : ∀ k w, I1 k w → w.length = 46 := by
  intro k w h
  match k, h with
  | 0, h => exact h
  | 1, h => rw [show w = ex_w0 from h]; exact ex_sl0.2
  | k + 2, h => exact absurd h id
