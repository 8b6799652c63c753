/-! the other object's readBytes -/
/-- letters are line ends or no control characters -/
def chOK (S : List Nat) : Prop := ∀ j, j < S.length → S.getD j 0 = 10 ∨ 32 ≤ S.getD j 0
section REF4
variable {X : Option (List Int32)} {w0 w : ex_W} {A : Nat → Int32} {S : List Nat} {p : Nat} {fr to : Int32} {v : Int64} {M : List Nat} {b q ca : Nat} {ls : List Nat} {ns : NM}
theorem y_hexScan {cn n1 : Int32} {t pl : Nat} (K : RS w0 A w S pl fr (nI t) v M b q ca ls ns) (E : isSr w0 S) (ht : t ≤ S.length) : ∀ (k i : Nat), i + k = t → ex_go X 151 143 [(0, .ref 32), (1, .int cn), (3, .int 0), (4, .int n1), (5, .int 1), (6, .int (nI i))] [] w = ex_go X 151 232 [(0, .ref 32), (1, .int cn), (3, .int 0), (4, .int n1), (5, .int (if allHex S k i = true then 1 else 0))] [] w := by
  have hl := lt_len E
  have n1 : ¬ (1 : Int32) = 0 := by decide
  intro k
  induction k with
  | zero =>
    intro i hi
    have e : nI t ≤ nI i := nI_le (by omega) (by omega)
    rw [allHex, if_pos rfl]
    simp (disch := first | assumption | decide) only [s151_143, s151_145, s151_146, s151_149, s151_150, s151_153, s151_154, s151_155, s151_158, s151_159, s151_162, rs_g K, List.getElem?_cons_zero, List.getElem?_cons_succ, Option.bind_some, Option.toList_some, Option.toList_none, List.cons_append, List.nil_append, not_true_eq_false, if_false, if_true, if_pos e]
  | succ k ih =>
    intro i hi
    have e : ¬ nI t ≤ nI i := nI_ge (by omega) (by omega)
    have al := rs_al K E (i := i) (by omega)
    have hx := y_hex (X := X) (w := w) (c := S.getD i 0) (lt_b E i)
    rw [allHex, s151_143]
    by_cases c : hexC (S.getD i 0)
    · have g : ¬ nI (hexV (S.getD i 0)) < 0 := nI_pos (by have := hexV_lt c; omega)
      rw [if_pos c]
      simp (disch := first | assumption | decide) only [s151_145, s151_146, s151_149, s151_150, s151_153, s151_154, s151_155, s151_158, s151_159, s151_162, s151_165, s151_167, s151_170, s151_171, s151_174, s151_175, s151_178, s151_180, s151_181, s151_183, s151_186, s151_187, s151_190, s151_192, s151_193, s151_195, s151_198, s151_199, s151_202, s151_203, s151_206, s151_207, s151_210, s151_212, s151_213, s151_216, s151_219, s151_220, s151_223, s151_224, s151_226, s151_229, rs_g K, List.getElem?_cons_zero, List.getElem?_cons_succ, Option.bind_some, Option.toList_some, Option.toList_none, List.cons_append, List.nil_append, not_true_eq_false, if_false, if_true, if_neg e, if_neg n1, al, hx.1 c, if_neg g, nI_1]
      exact ih (i + 1) (by omega)
    · have g : (-1 : Int32) < 0 := by decide
      rw [if_neg c, if_neg Bool.false_ne_true]
      simp (disch := first | assumption | decide) only [s151_145, s151_146, s151_149, s151_150, s151_153, s151_154, s151_155, s151_158, s151_159, s151_162, s151_165, s151_167, s151_170, s151_171, s151_174, s151_175, s151_178, s151_180, s151_181, s151_183, s151_186, s151_187, s151_190, s151_192, s151_193, s151_195, s151_198, s151_199, s151_202, s151_203, s151_206, s151_207, s151_210, s151_212, s151_213, s151_216, s151_219, s151_220, s151_223, s151_224, s151_226, s151_229, rs_g K, List.getElem?_cons_zero, List.getElem?_cons_succ, Option.bind_some, Option.toList_some, Option.toList_none, List.cons_append, List.nil_append, not_true_eq_false, if_false, if_true, if_neg e, if_neg n1, al, hx.2 c, if_pos g, nI_1]
      by_cases e2 : nI t ≤ nI (i + 1)
      · simp (disch := first | assumption | decide) only [s151_143, s151_145, s151_146, s151_149, s151_150, s151_153, s151_154, s151_155, s151_158, s151_159, s151_162, s151_165, s151_167, rs_g K, List.getElem?_cons_zero, List.getElem?_cons_succ, Option.bind_some, Option.toList_some, Option.toList_none, List.cons_append, List.nil_append, not_true_eq_false, if_false, if_true, if_pos e2]
      · simp (disch := first | assumption | decide) only [s151_143, s151_145, s151_146, s151_149, s151_150, s151_153, s151_154, s151_155, s151_158, s151_159, s151_162, s151_165, s151_167, rs_g K, List.getElem?_cons_zero, List.getElem?_cons_succ, Option.bind_some, Option.toList_some, Option.toList_none, List.cons_append, List.nil_append, not_true_eq_false, if_false, if_true, if_neg e2]
theorem y_quoScan {cn n1 : Int32} {t pl : Nat} (K : RS w0 A w S pl fr (nI (t + 1)) v M b q ca ls ns) (E : isSr w0 S) (ht : t + 1 ≤ S.length) {f : Nat} (hg : ∀ j, f ≤ j → j < t → ¬ gapC (S.getD j 0)) (hC : chOK S) : ∀ (k i : Nat), i + k = t → f ≤ i → ex_go X 151 143 [(0, .ref 32), (1, .int cn), (3, .int 1), (4, .int n1), (5, .int 1), (6, .int (nI i))] [] w = ex_go X 151 232 [(0, .ref 32), (1, .int cn), (3, .int 1), (4, .int n1), (5, .int (if noQ S k i = true then 1 else 0))] [] w := by
  have hl := lt_len E
  have n1 : ¬ (1 : Int32) = 0 := by decide
  intro k
  induction k with
  | zero =>
    intro i hi hf
    have e : nI t ≤ nI i := nI_le (by omega) (by omega)
    rw [noQ, if_pos rfl]
    simp (disch := first | assumption | decide) only [s151_143, s151_145, s151_146, s151_149, s151_150, s151_153, s151_154, s151_155, s151_158, s151_159, s151_162, rs_g K, List.getElem?_cons_zero, List.getElem?_cons_succ, Option.bind_some, Option.toList_some, Option.toList_none, List.cons_append, List.nil_append, not_true_eq_false, if_false, if_true, if_neg n1, nI_pred, if_pos e]
  | succ k ih =>
    intro i hi hf
    have e : ¬ nI t ≤ nI i := nI_ge (by omega) (by omega)
    have al := rs_al K E (i := i) (by omega)
    have hb := lt_b E i
    have g1 := hg i hf (by omega)
    have c33 : ¬ nI (S.getD i 0) < 33 := nI_nlt (b := 33) (by
      have := hC i (by omega)
      have h1 : ¬ S.getD i 0 = 32 := fun z => g1 (Or.inl z)
      have h2 : ¬ S.getD i 0 = 10 := fun z => g1 (Or.inr z)
      omega) (by omega)
    rw [noQ, s151_143]
    by_cases c : S.getD i 0 = 34
    · have e34 : nI (S.getD i 0) = 34 := by rw [c]; rfl
      rw [if_pos c, if_neg Bool.false_ne_true]
      simp (disch := first | assumption | decide) only [s151_145, s151_146, s151_149, s151_150, s151_153, s151_154, s151_155, s151_158, s151_159, s151_162, s151_165, s151_167, s151_170, s151_171, s151_174, s151_175, s151_178, s151_180, s151_181, s151_183, s151_186, s151_187, s151_190, s151_192, s151_193, s151_195, s151_198, s151_199, s151_202, s151_203, s151_206, s151_207, s151_210, s151_212, s151_213, s151_216, s151_219, s151_220, s151_223, s151_224, s151_226, s151_229, rs_g K, List.getElem?_cons_zero, List.getElem?_cons_succ, Option.bind_some, Option.toList_some, Option.toList_none, List.cons_append, List.nil_append, not_true_eq_false, if_false, if_true, if_neg e, if_neg n1, nI_pred, al, if_neg c33, if_pos e34, nI_1]
      by_cases e2 : nI t ≤ nI (i + 1)
      · simp (disch := first | assumption | decide) only [s151_143, s151_145, s151_146, s151_149, s151_150, s151_153, s151_154, s151_155, s151_158, s151_159, s151_162, s151_165, s151_167, rs_g K, List.getElem?_cons_zero, List.getElem?_cons_succ, Option.bind_some, Option.toList_some, Option.toList_none, List.cons_append, List.nil_append, not_true_eq_false, if_false, if_true, if_neg n1, nI_pred, if_pos e2]
      · simp (disch := first | assumption | decide) only [s151_143, s151_145, s151_146, s151_149, s151_150, s151_153, s151_154, s151_155, s151_158, s151_159, s151_162, s151_165, s151_167, rs_g K, List.getElem?_cons_zero, List.getElem?_cons_succ, Option.bind_some, Option.toList_some, Option.toList_none, List.cons_append, List.nil_append, not_true_eq_false, if_false, if_true, if_neg n1, nI_pred, if_neg e2]
    · have e34 : ¬ nI (S.getD i 0) = 34 := fun z => c ((nI_eq (b := 34) (by omega) (by decide)).mp z)
      rw [if_neg c]
      simp (disch := first | assumption | decide) only [s151_145, s151_146, s151_149, s151_150, s151_153, s151_154, s151_155, s151_158, s151_159, s151_162, s151_165, s151_167, s151_170, s151_171, s151_174, s151_175, s151_178, s151_180, s151_181, s151_183, s151_186, s151_187, s151_190, s151_192, s151_193, s151_195, s151_198, s151_199, s151_202, s151_203, s151_206, s151_207, s151_210, s151_212, s151_213, s151_216, s151_219, s151_220, s151_223, s151_224, s151_226, s151_229, rs_g K, List.getElem?_cons_zero, List.getElem?_cons_succ, Option.bind_some, Option.toList_some, Option.toList_none, List.cons_append, List.nil_append, not_true_eq_false, if_false, if_true, if_neg e, if_neg n1, nI_pred, al, if_neg c33, if_neg e34, nI_1]
      exact ih (i + 1) (by omega) (by omega)
theorem nI_255 {c : Nat} (h : c < 256) : nI c &&& 255 = nI c := by
  have := pk_andN (n := c) (by omega) (m := 255) 8 rfl
  rw [Nat.mod_eq_of_lt (by omega)] at this
  exact this
theorem y_hexAdd {n f pl : Nat} (E : isSr w0 S) (hf : f + 1 + 2 * n ≤ S.length) (hh : allHex S (2 * n) (f + 1) = true) : ∀ (k i : Nat) (M : List Nat) (w : ex_W), i + k = n → RS w0 A w S pl (nI f) to v M b q ca ls ns → M.length + k ≤ 140 → ∃ w2, ex_go X 151 277 [(0, .ref 32), (3, .int 0), (4, .int (nI n)), (6, .int (nI i))] [] w = some (some (.int 1), w2) ∧ RS w0 A w2 S pl (nI f) to v (M ++ hexBs S k (f + 1 + 2 * i)) b q ca ls ns := by
  have hl := lt_len E
  intro k
  induction k with
  | zero =>
    intro i M w hi K h
    have e : nI n ≤ nI i := nI_le (by omega) (by omega)
    refine ⟨w, ?_, by rw [hexBs, List.append_nil]; exact K⟩
    simp (disch := first | assumption | decide) only [s151_277, s151_279, s151_281, s151_357, s151_358, if_pos e]
  | succ k ih =>
    intro i M w hi K h
    have e : ¬ nI n ≤ nI i := nI_ge (by omega) (by omega)
    have rc := rs_rc K
    have h1 := allHex_at _ _ (f + 1 + 2 * i) hh (by omega) (by omega)
    have h2 := allHex_at _ _ (f + 1 + 2 * i + 1) hh (by omega) (by omega)
    have x1 := (y_hex (X := X) (w := w) (c := S.getD (f + 1 + 2 * i) 0) (lt_b E _)).1 h1
    have x2 := (y_hex (X := X) (w := w) (c := S.getD (f + 1 + 2 * i + 1) 0) (lt_b E _)).1 h2
    have al1 := rs_al K E (i := f + 1 + 2 * i) (by omega)
    have al2 := rs_al K E (i := f + 1 + 2 * i + 1) (by omega)
    have mu : (2 : Int32) * nI i = nI (2 * i) := pk_mul 2 i
    have n2 : nI f + 2 = nI (f + 2) := nI_add f 2
    have e2 : nI (f + 2) + nI (2 * i) = nI (f + 1 + 2 * i + 1) := by rw [nI_add, show f + 2 + 2 * i = f + 1 + 2 * i + 1 by omega]
    have m16 : (16 : Int32) * nI (hexV (S.getD (f + 1 + 2 * i) 0)) = nI (hexV (S.getD (f + 1 + 2 * i) 0) * 16) := by
      rw [Int32.mul_comm]
      exact pk_mul _ 16
    have v1 := hexV_lt h1
    have v2 := hexV_lt h2
    have bl : byO S (f + 1 + 2 * i) < 256 := by unfold byO; omega
    have sm : nI (hexV (S.getD (f + 1 + 2 * i) 0) * 16) + nI (hexV (S.getD (f + 1 + 2 * i + 1) 0)) = nI (byO S (f + 1 + 2 * i)) := nI_add _ _
    obtain ⟨w2, a2, K2⟩ := y_add (X := X) (c := byO S (f + 1 + 2 * i)) K (by omega) (nI_255 bl)
    obtain ⟨w3, a3, K3⟩ := ih (i + 1) _ w2 (by omega) K2 (by rw [List.length_append, List.length_singleton]; omega)
    refine ⟨w3, ?_, ?_⟩
    · rw [s151_277]
      simp (disch := first | assumption | decide) only [s151_279, s151_281, s151_284, s151_285, s151_286, s151_289, s151_290, s151_293, s151_294, s151_297, s151_298, s151_299, s151_301, s151_302, s151_303, s151_306, s151_308, s151_309, s151_312, s151_313, s151_316, s151_317, s151_318, s151_319, s151_321, s151_322, s151_323, s151_324, s151_327, s151_328, s151_329, s151_332, s151_333, s151_336, s151_337, s151_338, s151_339, s151_341, s151_342, s151_343, s151_344, s151_347, s151_348, s151_351, s151_354, if_neg e, rs_g K, List.getElem?_cons_zero, List.getElem?_cons_succ, Option.bind_some, Option.toList_some, Option.toList_none, List.cons_append, List.nil_append, not_true_eq_false, if_false, if_true, nI_1, mu, nI_add f, nI_add (f + 1), al1, x1, m16, n2, e2, al2, x2, sm, a2, a3]
    · rw [hexBs, show f + 1 + 2 * i + 2 = f + 1 + 2 * (i + 1) by omega]
      simp only [List.append_assoc, List.cons_append, List.nil_append] at K3 ⊢
      exact K3
theorem y_quoAdd {n f pl : Nat} (E : isSr w0 S) (hf : f + 1 + n ≤ S.length) : ∀ (k i : Nat) (M : List Nat) (w : ex_W), i + k = n → RS w0 A w S pl (nI f) to v M b q ca ls ns → M.length + k ≤ 140 → ∃ w2, ex_go X 151 277 [(0, .ref 32), (3, .int 1), (4, .int (nI n)), (6, .int (nI i))] [] w = some (some (.int 1), w2) ∧ RS w0 A w2 S pl (nI f) to v (M ++ rawL S (f + 1 + i) k) b q ca ls ns := by
  have hl := lt_len E
  have n1 : ¬ (1 : Int32) = 0 := by decide
  intro k
  induction k with
  | zero =>
    intro i M w hi K h
    have e : nI n ≤ nI i := nI_le (by omega) (by omega)
    refine ⟨w, ?_, by rw [rawL, List.append_nil]; exact K⟩
    simp (disch := first | assumption | decide) only [s151_277, s151_279, s151_281, s151_357, s151_358, if_pos e]
  | succ k ih =>
    intro i M w hi K h
    have e : ¬ nI n ≤ nI i := nI_ge (by omega) (by omega)
    have rc := rs_rc K
    have al1 := rs_al K E (i := f + 1 + i) (by omega)
    obtain ⟨w2, a2, K2⟩ := y_add (X := X) (c := S.getD (f + 1 + i) 0) K (by omega) (nI_255 (lt_b E _))
    obtain ⟨w3, a3, K3⟩ := ih (i + 1) _ w2 (by omega) K2 (by rw [List.length_append, List.length_singleton]; omega)
    refine ⟨w3, ?_, ?_⟩
    · rw [s151_277]
      simp (disch := first | assumption | decide) only [s151_279, s151_281, s151_284, s151_285, s151_286, s151_289, s151_290, s151_293, s151_294, s151_297, s151_298, s151_299, s151_301, s151_302, s151_303, s151_306, s151_308, s151_309, s151_312, s151_313, s151_316, s151_317, s151_318, s151_319, s151_321, s151_322, s151_323, s151_324, s151_327, s151_328, s151_329, s151_332, s151_333, s151_336, s151_337, s151_338, s151_339, s151_341, s151_342, s151_343, s151_344, s151_347, s151_348, s151_351, s151_354, if_neg e, if_neg n1, rs_g K, List.getElem?_cons_zero, List.getElem?_cons_succ, Option.bind_some, Option.toList_some, Option.toList_none, List.cons_append, List.nil_append, not_true_eq_false, if_false, if_true, nI_1, nI_add, al1, a2, a3]
    · rw [rawL, show f + 1 + i + 1 = f + 1 + (i + 1) by omega]
      simp only [List.append_assoc, List.cons_append, List.nil_append] at K3 ⊢
      exact K3
theorem y_readBytes {cn nm : Nat} (hcn : cn = 0 ∨ cn = 1) (hnm : nm = 0 ∨ (nm = 1 ∧ cn = 1)) (K : RS w0 A w S p fr to v M b q ca ls ns) (E : isSr w0 S) (hC : chOK S) (hp : p ≤ S.length) (hM : M.length ≤ b) (hb : b ≤ 120) : outR w0 A S (ex_call X 151 [.ref 32, .int (nI cn), .int (nI nm)] w) (one S p (if nm = 0 then rHex S cn p b else rNam S p b)) M b q ca ls ns := by
  have hl := lt_len E
  have rc := rs_rc K
  have n1 : ¬ (1 : Int32) = 0 := by decide
  have wb := w_b hp
  have mu := y_must (X := X) K E hp
  by_cases cw : wF S p < wT S p
  · obtain ⟨w1, a1, K1⟩ := mu.1 cw
    have rc1 := rs_rc K1
    have al := rs_al K1 E (i := wF S p) (by omega)
    have hb0 := lt_b E (wF S p)
    have sb : nI (wT S p) - nI (wF S p) = nI (wT S p - wF S p) := pk_sub wb.2.1
    -- behind the tests
    have fin : ∀ (good : Bool) (qd : Nat) (n : Nat) (ys : List Nat), (qd = 0 ∨ qd = 1) → ys.length = n → (good = true → ∀ (M : List Nat) (w : ex_W) (b : Nat), RS w0 A w S (wT S p) (nI (wF S p)) (nI (wT S p)) v M b q ca ls ns → M.length + n ≤ 140 → ∃ w2, ex_go X 151 277 [(0, .ref 32), (3, .int (nI qd)), (4, .int (nI n)), (6, .int (nI 0))] [] w = some (some (.int 1), w2) ∧ RS w0 A w2 S (wT S p) (nI (wF S p)) (nI (wT S p)) v (M ++ ys) b q ca ls ns) → n < 2 ^ 18 → outR w0 A S (ex_go X 151 232 [(0, .ref 32), (1, .int (nI cn)), (3, .int (nI qd)), (4, .int (nI n)), (5, .int (if good = true then 1 else 0))] [] w1) (one S p (if good = true ∧ b + (cn + n) ≤ 120 then some ((if cn = 0 then [] else [n]) ++ ys) else none)) M b q ca ls ns := by
      intro good qd n ys hqd hys hadd hn
      cases good with
      | false =>
        have hz : ¬ (false = true ∧ b + (cn + n) ≤ 120) := fun z => by cases z.1
        rw [if_neg Bool.false_ne_true, if_neg hz]
        obtain ⟨w2, a2, F2⟩ := y_wrong (X := X) K1
        refine ⟨fun t xs z => (by cases z), fun f z => ?_⟩
        cases z
        refine ⟨w2, ?_, F2⟩
        simp (disch := first | assumption | decide) only [s151_232, s151_234, s151_237, s151_238, s151_241, List.getElem?_cons_zero, List.getElem?_cons_succ, Option.bind_some, Option.toList_some, Option.toList_none, List.cons_append, List.nil_append, not_true_eq_false, if_false, if_true, a2]
      | true =>
        rw [if_pos rfl]
        have rm := y_room (X := X) (n := cn + n) K1 hb (by omega)
        have hd : ex_go X 151 232 [(0, .ref 32), (1, .int (nI cn)), (3, .int (nI qd)), (4, .int (nI n)), (5, .int 1)] [] w1 = (ex_call X 146 [.ref 32, .int (nI (cn + n))] w1).bind (fun z => ex_go X 151 259 [(0, .ref 32), (1, .int (nI cn)), (3, .int (nI qd)), (4, .int (nI n))] (z.1.toList ++ []) z.2) := by
          rcases hcn with c | c <;> subst c
          · rw [Nat.zero_add]
            simp (disch := first | assumption | decide) only [s151_232, s151_234, s151_237, s151_238, s151_241, s151_242, s151_243, s151_244, s151_247, s151_249, s151_250, s151_251, s151_254, s151_256, if_pos n1, if_pos, List.getElem?_cons_zero, List.getElem?_cons_succ, Option.bind_some, Option.toList_some, Option.toList_none, List.cons_append, List.nil_append, not_true_eq_false, if_false, if_true]
          · have e1 : nI n + 1 = nI (1 + n) := by rw [Nat.add_comm]; exact nI_1 n
            simp (disch := first | assumption | decide) only [s151_232, s151_234, s151_237, s151_238, s151_241, s151_242, s151_243, s151_244, s151_247, s151_249, s151_250, s151_251, s151_254, s151_256, if_pos n1, if_neg, e1, List.getElem?_cons_zero, List.getElem?_cons_succ, Option.bind_some, Option.toList_some, Option.toList_none, List.cons_append, List.nil_append, not_true_eq_false, if_false, if_true]
        rw [hd]
        by_cases cR : b + (cn + n) ≤ 120
        · obtain ⟨w2, a2, K2⟩ := rm.1 cR
          rw [if_pos ⟨rfl, cR⟩, a2, Option.bind_some]
          refine ⟨fun t xs z => ?_, fun f z => (by cases z)⟩
          cases z
          rcases hcn with c | c <;> subst c
          · obtain ⟨w3, a3, K3⟩ := hadd rfl M w2 _ K2 (by omega)
            have a3 : ex_go X 151 277 [(0, .ref 32), (3, .int (nI qd)), (4, .int (nI n)), (6, .int 0)] [] w2 = some (some (.int 1), w3) := a3
            refine ⟨w3, nI (wF S p), nI (wT S p), v, ?_, ?_, wb.2.2.1, ?_⟩
            · simp (disch := first | assumption | decide) only [s151_259, s151_262, s151_263, s151_264, s151_265, s151_268, s151_269, s151_271, s151_274, s151_275, List.getElem?_cons_zero, List.getElem?_cons_succ, Option.bind_some, Option.toList_some, Option.toList_none, List.cons_append, List.nil_append, not_true_eq_false, if_false, if_true, if_pos n1, if_pos, a3]
            · rw [if_pos rfl, List.nil_append, hys]
              rw [Nat.zero_add] at K3
              exact K3
            · rw [if_pos rfl, List.nil_append, hys]
              omega
          · have rc2 := rs_rc K2
            obtain ⟨w4, a4, K4⟩ := y_add (X := X) (c := n) K2 (by omega) (nI_255 (by omega))
            obtain ⟨w3, a3, K3⟩ := hadd rfl _ w4 _ K4 (by rw [List.length_append, List.length_singleton]; omega)
            have a3 : ex_go X 151 277 [(0, .ref 32), (3, .int (nI qd)), (4, .int (nI n)), (6, .int 0)] [] w4 = some (some (.int 1), w3) := a3
            refine ⟨w3, nI (wF S p), nI (wT S p), v, ?_, ?_, wb.2.2.1, ?_⟩
            · simp (disch := first | assumption | decide) only [s151_259, s151_262, s151_263, s151_264, s151_265, s151_268, s151_269, s151_271, s151_274, s151_275, List.getElem?_cons_zero, List.getElem?_cons_succ, Option.bind_some, Option.toList_some, Option.toList_none, List.cons_append, List.nil_append, not_true_eq_false, if_false, if_true, if_pos n1, if_neg, a4, a3]
            · rw [if_neg (by decide), List.length_append, List.length_singleton, hys, ← List.append_assoc]
              exact K3
            · rw [if_neg (by decide), List.length_append, List.length_singleton, hys]
              exact cR
        · obtain ⟨w2, a2, F2⟩ := rm.2 cR
          rw [if_neg (fun z => cR z.2), a2, Option.bind_some]
          refine ⟨fun t xs z => (by cases z), fun f z => ?_⟩
          cases z
          refine ⟨w2, ?_, F2⟩
          simp (disch := first | assumption | decide) only [s151_259, s151_262, s151_263, List.getElem?_cons_zero, List.getElem?_cons_succ, Option.bind_some, Option.toList_some, Option.toList_none, List.cons_append, List.nil_append, not_true_eq_false, if_false, if_true]
    -- is it quoted?
    by_cases cq : nm = 1 ∧ S.getD (wF S p) 0 = 34
    · obtain ⟨cq1, cq2⟩ := cq
      have ec : cn = 1 := by omega
      subst cq1
      rw [if_neg (by decide)]
      have eA : areB S p = false := if_neg (fun z => by rw [cq2] at z; omega)
      have e34 : ¬ ¬ nI (S.getD (wF S p) 0) = 34 := by rw [cq2]; decide
      unfold rNam rQuo
      rw [eA, if_neg Bool.false_ne_true]
      by_cases c3 : 3 ≤ wT S p - wF S p
      · have s2 : nI (wT S p - wF S p) - 2 = nI (quoK S p) := by
          have := pk_sub (a := wT S p - wF S p) (b := 2) (by omega)
          exact this
        have hqk : quoK S p = wT S p - wF S p - 2 := rfl
        have g0 : ¬ nI (quoK S p) ≤ 0 := nI_ge (a := 0) (by omega) (by omega)
        obtain ⟨t1, ht1⟩ : ∃ t1, wT S p = t1 + 1 := ⟨wT S p - 1, by omega⟩
        have al2 := rs_al K1 E (i := t1) (by omega)
        have hb2 := lt_b E t1
        have K1' := K1
        rw [ht1] at K1'
        have hd : ex_call X 151 [.ref 32, .int (nI cn), .int (nI 1)] w = ex_go X 151 143 [(0, .ref 32), (1, .int (nI cn)), (3, .int 1), (4, .int (nI (quoK S p))), (5, .int (if S.getD t1 0 = 34 then 1 else 0)), (6, .int (nI (wF S p + 1)))] [] w1 := by
          have sb' : nI (t1 + 1) - nI (wF S p) = nI (wT S p - wF S p) := by rw [← ht1]; exact sb
          show ex_go X 151 0 [(0, .ref 32), (1, .int (nI cn)), (2, .int (nI 1))] [] w = _
          by_cases c : S.getD t1 0 = 34
          · have e2 : ¬ ¬ nI (S.getD t1 0) = 34 := by rw [c]; decide
            rw [if_pos c]
            simp (disch := first | assumption | decide) only [s151_0, s151_1, s151_4, s151_7, s151_8, s151_9, s151_10, s151_13, s151_14, s151_17, s151_18, s151_21, s151_22, s151_24, s151_27, s151_28, s151_31, s151_32, s151_33, s151_34, s151_37, s151_38, s151_41, s151_42, s151_45, s151_46, s151_47, s151_48, s151_51, s151_52, s151_55, s151_56, s151_59, s151_60, s151_61, s151_62, s151_63, s151_64, s151_66, s151_67, s151_70, s151_72, s151_75, s151_76, s151_79, s151_80, s151_83, s151_84, s151_85, s151_86, s151_88, s151_91, s151_92, s151_95, s151_96, s151_99, s151_100, s151_103, s151_104, s151_107, s151_108, s151_110, s151_113, s151_114, s151_117, s151_118, s151_121, s151_122, s151_123, s151_124, s151_125, s151_128, s151_129, s151_132, s151_133, s151_135, s151_136, s151_139, s151_140, s151_141, a1, List.getElem?_cons_zero, List.getElem?_cons_succ, Option.bind_some, Option.toList_some, Option.toList_none, List.cons_append, List.nil_append, not_true_eq_false, if_false, if_true, if_pos n1, if_neg n1, if_neg, rs_g K1', al, if_neg e34, sb', s2, if_neg g0, nI_pred, al2, if_neg e2, nI_1]
          · have e2 : ¬ nI (S.getD t1 0) = 34 := fun z => c ((nI_eq (b := 34) (by omega) (by decide)).mp z)
            rw [if_neg c]
            simp (disch := first | assumption | decide) only [s151_0, s151_1, s151_4, s151_7, s151_8, s151_9, s151_10, s151_13, s151_14, s151_17, s151_18, s151_21, s151_22, s151_24, s151_27, s151_28, s151_31, s151_32, s151_33, s151_34, s151_37, s151_38, s151_41, s151_42, s151_45, s151_46, s151_47, s151_48, s151_51, s151_52, s151_55, s151_56, s151_59, s151_60, s151_61, s151_62, s151_63, s151_64, s151_66, s151_67, s151_70, s151_72, s151_75, s151_76, s151_79, s151_80, s151_83, s151_84, s151_85, s151_86, s151_88, s151_91, s151_92, s151_95, s151_96, s151_99, s151_100, s151_103, s151_104, s151_107, s151_108, s151_110, s151_113, s151_114, s151_117, s151_118, s151_121, s151_122, s151_123, s151_124, s151_125, s151_128, s151_129, s151_132, s151_133, s151_135, s151_136, s151_139, s151_140, s151_141, a1, List.getElem?_cons_zero, List.getElem?_cons_succ, Option.bind_some, Option.toList_some, Option.toList_none, List.cons_append, List.nil_append, not_true_eq_false, if_false, if_true, if_pos n1, if_neg n1, if_neg, rs_g K1', al, if_neg e34, sb', s2, if_neg g0, nI_pred, al2, if_pos e2, nI_1]
        rw [hd]
        have sc : ex_go X 151 143 [(0, .ref 32), (1, .int (nI cn)), (3, .int 1), (4, .int (nI (quoK S p))), (5, .int (if S.getD t1 0 = 34 then 1 else 0)), (6, .int (nI (wF S p + 1)))] [] w1 = ex_go X 151 232 [(0, .ref 32), (1, .int (nI cn)), (3, .int 1), (4, .int (nI (quoK S p))), (5, .int (if isQ S p = true then 1 else 0))] [] w1 := by
          have et : wT S p - 1 = t1 := by omega
          by_cases c : S.getD t1 0 = 34
          · have eQ : isQ S p = noQ S (wT S p - wF S p - 2) (wF S p + 1) := if_pos ⟨c3, cq2, by rw [et]; exact c⟩
            rw [if_pos c, eQ]
            have qs := y_quoScan (X := X) (cn := nI cn) (n1 := nI (quoK S p)) (f := wF S p) K1' E (by omega) (fun j h1 h2 => wb.2.2.2.2 j h1 (by omega)) hC (wT S p - wF S p - 2) (wF S p + 1) (by omega) (by omega)
            rw [qs]
          · have eQ : isQ S p = false := if_neg (fun z => c (by rw [← et]; exact z.2.2))
            rw [if_neg c, eQ, if_neg Bool.false_ne_true]
            by_cases e2 : nI t1 ≤ nI (wF S p + 1)
            · simp (disch := first | assumption | decide) only [s151_143, s151_145, s151_146, s151_149, s151_150, s151_153, s151_154, s151_155, s151_158, s151_159, s151_162, s151_165, s151_167, rs_g K1', List.getElem?_cons_zero, List.getElem?_cons_succ, Option.bind_some, Option.toList_some, Option.toList_none, List.cons_append, List.nil_append, not_true_eq_false, if_false, if_true, if_neg n1, nI_pred, if_pos e2]
            · simp (disch := first | assumption | decide) only [s151_143, s151_145, s151_146, s151_149, s151_150, s151_153, s151_154, s151_155, s151_158, s151_159, s151_162, s151_165, s151_167, rs_g K1', List.getElem?_cons_zero, List.getElem?_cons_succ, Option.bind_some, Option.toList_some, Option.toList_none, List.cons_append, List.nil_append, not_true_eq_false, if_false, if_true, if_neg n1, nI_pred, if_neg e2]
        rw [sc]
        have fi := fin (isQ S p) 1 (quoK S p) (rawL S (wF S p + 1) (quoK S p)) (Or.inr rfl) (rawL_len _ _) (fun _ M w b K hMl => y_quoAdd (X := X) E (by omega) (quoK S p) 0 M w (by omega) K hMl) (by omega)
        rw [ec] at fi ⊢
        rw [if_neg (show ¬ (1 : Nat) = 0 by decide)] at fi
        exact fi
      · -- too short
        have eQ : isQ S p = false := if_neg (fun z => c3 z.1)
        rw [eQ, if_neg (fun z => by cases z.1)]
        have g0 : nI (wT S p - wF S p) - 2 ≤ 0 := by
          rw [Int32.le_iff_toInt_le, Int32.toInt_sub, nI_toInt (by omega), show (2 : Int32).toInt = 2 from rfl, show (0 : Int32).toInt = 0 from rfl, Int.bmod_eq_of_le (by omega) (by omega)]
          omega
        obtain ⟨w2, a2, F2⟩ := y_wrong (X := X) K1
        refine ⟨fun t xs z => (by cases z), fun f z => ?_⟩
        cases z
        refine ⟨w2, ?_, F2⟩
        show ex_go X 151 0 [(0, .ref 32), (1, .int (nI cn)), (2, .int (nI 1))] [] w = _
        obtain ⟨t1, ht1⟩ : ∃ t1, wT S p = t1 + 1 := ⟨wT S p - 1, by omega⟩
        have K1' := K1
        rw [ht1] at K1'
        have sb' : nI (t1 + 1) - nI (wF S p) = nI (wT S p - wF S p) := by rw [← ht1]; exact sb
        simp (disch := first | assumption | decide) only [s151_0, s151_1, s151_4, s151_7, s151_8, s151_9, s151_10, s151_13, s151_14, s151_17, s151_18, s151_21, s151_22, s151_24, s151_27, s151_28, s151_31, s151_32, s151_33, s151_34, s151_37, s151_38, s151_41, s151_42, s151_45, s151_46, s151_47, s151_48, s151_51, s151_52, s151_55, s151_56, s151_59, s151_60, s151_61, s151_62, s151_63, s151_64, s151_66, s151_67, s151_70, s151_72, s151_75, s151_76, s151_79, s151_80, s151_83, s151_84, s151_85, s151_86, s151_88, s151_91, s151_92, s151_95, s151_96, s151_99, s151_100, s151_103, s151_104, s151_107, s151_108, s151_110, s151_113, s151_114, s151_117, s151_118, s151_121, s151_122, s151_123, s151_124, s151_125, s151_128, s151_129, s151_132, s151_133, s151_135, s151_136, s151_139, s151_140, s151_141, a1, List.getElem?_cons_zero, List.getElem?_cons_succ, Option.bind_some, Option.toList_some, Option.toList_none, List.cons_append, List.nil_append, not_true_eq_false, if_false, if_true, if_pos n1, if_neg n1, if_neg, rs_g K1', al, if_neg e34, sb', if_pos g0, nI_1]
        by_cases e2 : nI t1 ≤ nI (wF S p + 1)
        · simp (disch := first | assumption | decide) only [s151_143, s151_145, s151_146, s151_149, s151_150, s151_153, s151_154, s151_155, s151_158, s151_159, s151_162, s151_165, s151_167, s151_232, s151_234, s151_237, s151_238, s151_241, rs_g K1', List.getElem?_cons_zero, List.getElem?_cons_succ, Option.bind_some, Option.toList_some, Option.toList_none, List.cons_append, List.nil_append, not_true_eq_false, if_false, if_true, if_neg n1, nI_pred, if_pos e2, a2]
        · simp (disch := first | assumption | decide) only [s151_143, s151_145, s151_146, s151_149, s151_150, s151_153, s151_154, s151_155, s151_158, s151_159, s151_162, s151_165, s151_167, s151_232, s151_234, s151_237, s151_238, s151_241, rs_g K1', List.getElem?_cons_zero, List.getElem?_cons_succ, Option.bind_some, Option.toList_some, Option.toList_none, List.cons_append, List.nil_append, not_true_eq_false, if_false, if_true, if_neg n1, nI_pred, if_neg e2, a2]
    · -- bare bytes
      have hK : (wT S p - wF S p - 1) / 2 = hexK S p ∨ ¬ (wT S p - wF S p) % 2 = 1 := by
        unfold hexK
        omega
      have s1 : nI (wT S p - wF S p) - 1 = nI (wT S p - wF S p - 1) := pk_sub (b := 1) (by omega)
      have dv : nI (wT S p - wF S p - 1) / 2 = nI ((wT S p - wF S p - 1) / 2) := pk_div (d := 2) (by omega) (by decide) (by decide)
      have rm : nI (wT S p - wF S p) - nI (wT S p - wF S p) / 2 * 2 = nI ((wT S p - wF S p) % 2) := pk_rem (d := 2) (by omega) (by decide) (by decide)
      have z2 : ¬ (2 : Int32) = 0 := by decide
      have hd0 : ex_call X 151 [.ref 32, .int (nI cn), .int (nI nm)] w = ex_go X 151 99 [(0, .ref 32), (1, .int (nI cn)), (3, .int 0), (4, .int (nI ((wT S p - wF S p - 1) / 2)))] [] w1 := by
        show ex_go X 151 0 [(0, .ref 32), (1, .int (nI cn)), (2, .int (nI nm))] [] w = _
        rcases hnm with c | c
        · subst c
          simp (disch := first | assumption | decide) only [s151_0, s151_1, s151_4, s151_7, s151_8, s151_9, s151_10, s151_13, s151_14, s151_17, s151_18, s151_21, s151_22, s151_24, s151_27, s151_28, s151_31, s151_32, s151_33, s151_34, s151_37, s151_38, s151_41, s151_42, s151_45, s151_46, s151_47, s151_48, s151_51, s151_52, s151_55, s151_56, s151_59, s151_60, s151_61, s151_62, s151_63, s151_64, s151_66, s151_67, a1, List.getElem?_cons_zero, List.getElem?_cons_succ, Option.bind_some, Option.toList_some, Option.toList_none, List.cons_append, List.nil_append, not_true_eq_false, if_false, if_true, if_pos n1, if_pos, rs_g K1, sb, s1, dv]
        · obtain ⟨c1, c2⟩ := c
          subst c1
          have e34 : ¬ nI (S.getD (wF S p) 0) = 34 := fun z => cq ⟨rfl, (nI_eq (b := 34) (by omega) (by decide)).mp z⟩
          simp (disch := first | assumption | decide) only [s151_0, s151_1, s151_4, s151_7, s151_8, s151_9, s151_10, s151_13, s151_14, s151_17, s151_18, s151_21, s151_22, s151_24, s151_27, s151_28, s151_31, s151_32, s151_33, s151_34, s151_37, s151_38, s151_41, s151_42, s151_45, s151_46, s151_47, s151_48, s151_51, s151_52, s151_55, s151_56, s151_59, s151_60, s151_61, s151_62, s151_63, s151_64, s151_66, s151_67, a1, List.getElem?_cons_zero, List.getElem?_cons_succ, Option.bind_some, Option.toList_some, Option.toList_none, List.cons_append, List.nil_append, not_true_eq_false, if_false, if_true, if_pos n1, if_neg, rs_g K1, al, if_pos e34, sb, s1, dv]
      have hd : ex_call X 151 [.ref 32, .int (nI cn), .int (nI nm)] w = ex_go X 151 232 [(0, .ref 32), (1, .int (nI cn)), (3, .int 0), (4, .int (nI ((wT S p - wF S p - 1) / 2))), (5, .int (if areB S p = true then 1 else 0))] [] w1 := by
        rw [hd0]
        have nogood : ex_go X 151 143 [(0, .ref 32), (1, .int (nI cn)), (3, .int 0), (4, .int (nI ((wT S p - wF S p - 1) / 2))), (5, .int 0), (6, .int (nI (wF S p + 1)))] [] w1 = ex_go X 151 232 [(0, .ref 32), (1, .int (nI cn)), (3, .int 0), (4, .int (nI ((wT S p - wF S p - 1) / 2))), (5, .int 0)] [] w1 := by
          by_cases e2 : nI (wT S p) ≤ nI (wF S p + 1)
          · simp (disch := first | assumption | decide) only [s151_143, s151_145, s151_146, s151_149, s151_150, s151_153, s151_154, s151_155, s151_158, s151_159, s151_162, s151_165, s151_167, rs_g K1, List.getElem?_cons_zero, List.getElem?_cons_succ, Option.bind_some, Option.toList_some, Option.toList_none, List.cons_append, List.nil_append, not_true_eq_false, if_false, if_true, if_pos e2]
          · simp (disch := first | assumption | decide) only [s151_143, s151_145, s151_146, s151_149, s151_150, s151_153, s151_154, s151_155, s151_158, s151_159, s151_162, s151_165, s151_167, rs_g K1, List.getElem?_cons_zero, List.getElem?_cons_succ, Option.bind_some, Option.toList_some, Option.toList_none, List.cons_append, List.nil_append, not_true_eq_false, if_false, if_true, if_neg e2]
        by_cases c1 : S.getD (wF S p) 0 = 120
        · have e1 : ¬ ¬ nI (S.getD (wF S p) 0) = 120 := by rw [c1]; decide
          by_cases c2 : (wT S p - wF S p) % 2 = 1
          · have e2 : ¬ ¬ nI ((wT S p - wF S p) % 2) = 1 := by rw [c2]; decide
            have hs := y_hexScan (X := X) (cn := nI cn) (n1 := nI ((wT S p - wF S p - 1) / 2)) K1 E wb.2.2.1 (wT S p - wF S p - 1) (wF S p + 1) (by omega)
            rw [show areB S p = allHex S (wT S p - wF S p - 1) (wF S p + 1) from if_pos ⟨c1, c2⟩, ← hs]
            simp (disch := first | assumption | decide) only [s151_99, s151_100, s151_103, s151_104, s151_107, s151_108, s151_110, s151_113, s151_114, s151_117, s151_118, s151_121, s151_122, s151_123, s151_124, s151_125, s151_128, s151_129, s151_132, s151_133, s151_135, s151_136, s151_139, s151_140, s151_141, rs_g K1, List.getElem?_cons_zero, List.getElem?_cons_succ, Option.bind_some, Option.toList_some, Option.toList_none, List.cons_append, List.nil_append, not_true_eq_false, if_false, if_true, al, if_neg e1, sb, rm, if_neg e2, nI_1]
          · have e2 : ¬ nI ((wT S p - wF S p) % 2) = 1 := by rw [show (wT S p - wF S p) % 2 = 0 by omega]; decide
            rw [show areB S p = false from if_neg (fun z => c2 z.2), if_neg Bool.false_ne_true, ← nogood]
            simp (disch := first | assumption | decide) only [s151_99, s151_100, s151_103, s151_104, s151_107, s151_108, s151_110, s151_113, s151_114, s151_117, s151_118, s151_121, s151_122, s151_123, s151_124, s151_125, s151_128, s151_129, s151_132, s151_133, s151_135, s151_136, s151_139, s151_140, s151_141, rs_g K1, List.getElem?_cons_zero, List.getElem?_cons_succ, Option.bind_some, Option.toList_some, Option.toList_none, List.cons_append, List.nil_append, not_true_eq_false, if_false, if_true, al, if_neg e1, sb, rm, if_pos e2, nI_1]
        · have e1 : ¬ nI (S.getD (wF S p) 0) = 120 := fun z => c1 ((nI_eq (b := 120) (by omega) (by decide)).mp z)
          rw [show areB S p = false from if_neg (fun z => c1 z.1), if_neg Bool.false_ne_true, ← nogood]
          simp (disch := first | assumption | decide) only [s151_99, s151_100, s151_103, s151_104, s151_107, s151_108, s151_110, s151_113, s151_114, s151_117, s151_118, s151_121, s151_122, s151_123, s151_124, s151_125, s151_128, s151_129, s151_132, s151_133, s151_135, s151_136, s151_139, s151_140, s151_141, rs_g K1, List.getElem?_cons_zero, List.getElem?_cons_succ, Option.bind_some, Option.toList_some, Option.toList_none, List.cons_append, List.nil_append, not_true_eq_false, if_false, if_true, al, if_pos e1, nI_1]
      have er : (if nm = 0 then rHex S cn p b else rNam S p b) = rHex S cn p b := by
        rcases hnm with c | ⟨c1, c2⟩
        · rw [if_pos c]
        · rw [if_neg (by omega), c2]
          unfold rNam
          by_cases cB : areB S p = true
          · rw [if_pos cB]
          · rw [if_neg cB]
            unfold rQuo rHex
            have : ¬ isQ S p = true := by
              unfold isQ
              intro z
              split at z
              next c => exact cq ⟨c1, c.2.1⟩
              next => cases z
            rw [if_neg (fun z => this z.1), if_neg (fun z => cB z.1)]
      rw [er, hd]
      unfold rHex
      by_cases cB : areB S p = true
      · have od := areB_odd cB
        have hk : (wT S p - wF S p - 1) / 2 = hexK S p := by omega
        rw [hk]
        have hh : allHex S (2 * hexK S p) (wF S p + 1) = true := by
          unfold areB at cB
          split at cB
          next c =>
            rw [show 2 * hexK S p = wT S p - wF S p - 1 by omega]
            exact cB
          next => cases cB
        exact fin (areB S p) 0 (hexK S p) (hexBs S (hexK S p) (wF S p + 1)) (Or.inl rfl) (hexBs_len _ _) (fun _ M w b K hMl => y_hexAdd (X := X) E (by omega) hh (hexK S p) 0 M w (by omega) K hMl) (by omega)
      · have fi := fin (areB S p) 0 ((wT S p - wF S p - 1) / 2) (List.replicate ((wT S p - wF S p - 1) / 2) 0) (Or.inl rfl) List.length_replicate (fun h => absurd h cB) (by omega)
        have hz1 : ¬ (areB S p = true ∧ b + (cn + (wT S p - wF S p - 1) / 2) ≤ 120) := fun z => cB z.1
        have hz2 : ¬ (areB S p = true ∧ b + (cn + hexK S p) ≤ 120) := fun z => cB z.1
        rw [if_neg hz1] at fi
        rw [if_neg hz2]
        exact fi
  · obtain ⟨w1, a1, F1⟩ := mu.2 cw
    have e0 := getD_end hp cw
    have eA : areB S p = false := if_neg (fun z => by rw [e0] at z; omega)
    have eQ : isQ S p = false := if_neg (fun z => by rw [e0] at z; omega)
    have er : (if nm = 0 then rHex S cn p b else rNam S p b) = none := by
      have e1 : rHex S cn p b = none := if_neg (fun z => by rw [eA] at z; cases z.1)
      have e2 : rNam S p b = none := by
        unfold rNam
        rw [eA, if_neg Bool.false_ne_true]
        exact if_neg (fun z => by rw [eQ] at z; cases z.1)
      split
      · exact e1
      · exact e2
    rw [er]
    refine ⟨fun t xs z => (by cases z), fun f z => ?_⟩
    cases z
    refine ⟨w1, ?_, F1⟩
    show ex_go X 151 0 [(0, .ref 32), (1, .int (nI cn)), (2, .int (nI nm))] [] w = _
    simp (disch := first | assumption | decide) only [s151_0, s151_1, s151_4, s151_7, s151_8, a1, List.getElem?_cons_zero, List.getElem?_cons_succ, Option.bind_some, Option.toList_some, Option.toList_none, List.cons_append, List.nil_append, not_true_eq_false, if_false, if_true]
end REF4
