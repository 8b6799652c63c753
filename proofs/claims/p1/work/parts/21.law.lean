/-! the law's loop, over any relation between the two objects that each call keeps -/
/-- a call on both: the same answer, and the world behind both -/
def pr (mc mm : Nat) (av : List Value) (w : ex_W) (Q : ex_W → Prop) : Prop := ∃ r w1 w2, ex_rc w 0 0 = true ∧ ex_call none mc (.ref 0 :: av) w = some (some (.int r), w1) ∧ ex_rc w1 32 8 = true ∧ ex_call none mm (.ref 32 :: av) w1 = some (some (.int r), w2) ∧ Q w2
theorem nI_2 (a : Nat) : nI a + 2 = nI (a + 2) := nI_add a 2
theorem nI_3 (a : Nat) : nI a + 3 = nI (a + 3) := nI_add a 3
theorem lw_get {xs : List Int32} {k : Nat} (hk : k < xs.length) (hx : xs.length < 2 ^ 20) : xs[(nI k).toNatClampNeg]? = some (xs.getD k 0) := by
  rw [nI_clamp (by omega), List.getD_eq_getElem?_getD, List.getElem?_eq_getElem hk]
  rfl
theorem lw_c0 {xs : List Int32} {i : Nat} {w : ex_W} {Q : ex_W → Prop} (hi : i + 2 < xs.length) (hx : xs.length < 2 ^ 20) (h : pr 2 128 [.int (xs.getD (i + 1) 0), .int (xs.getD (i + 2) 0)] w Q) : ∃ w2, Q w2 ∧ ex_go (some xs) 0 92 [(0, .ref 1000), (1, .ref 0), (2, .ref 32), (3, .int (nI i))] [] w = ex_go (some xs) 0 315 [(0, .ref 1000), (1, .ref 0), (2, .ref 32), (3, .int (nI i))] [] w2 := by
  obtain ⟨r, w1, w2, hr1, c1, hr2, c2, hq⟩ := h
  have c1 := ex_call_up (xs := xs) c1
  have c2 := ex_call_up (xs := xs) c2
  have n1 : ¬ nI (i + 1) < 0 := nI_pos (by omega)
  have n2 : ¬ nI (i + 2) < 0 := nI_pos (by omega)
  have g1 := lw_get (k := i + 1) (show i + 1 < xs.length by omega) hx
  have g2 := lw_get (k := i + 2) hi hx
  refine ⟨w2, hq, ?_⟩
  simp only [s0_92, s0_93, s0_94, s0_95, s0_96, s0_97 n1, s0_98, s0_99, s0_100, s0_101, s0_102 n2, s0_103 hr1, s0_106, s0_107, s0_108, s0_109, s0_110, s0_111 n1, s0_112, s0_113, s0_114, s0_115, s0_116 n2, s0_117 hr2, s0_120, nI_1, nI_2, g1, g2, Option.bind_some, c1, c2, Option.toList_some, List.cons_append, List.nil_append, if_true]
theorem lw_c1 {xs : List Int32} {i : Nat} {w : ex_W} {Q : ex_W → Prop} (hi : i + 2 < xs.length) (hx : xs.length < 2 ^ 20) (h : pr 3 129 [] w Q) : ∃ w2, Q w2 ∧ ex_go (some xs) 0 125 [(0, .ref 1000), (1, .ref 0), (2, .ref 32), (3, .int (nI i))] [] w = ex_go (some xs) 0 315 [(0, .ref 1000), (1, .ref 0), (2, .ref 32), (3, .int (nI i))] [] w2 := by
  obtain ⟨r, w1, w2, hr1, c1, hr2, c2, hq⟩ := h
  have c1 := ex_call_up (xs := xs) c1
  have c2 := ex_call_up (xs := xs) c2
  have n1 : ¬ nI (i + 1) < 0 := nI_pos (by omega)
  have n2 : ¬ nI (i + 2) < 0 := nI_pos (by omega)
  have g1 := lw_get (k := i + 1) (show i + 1 < xs.length by omega) hx
  have g2 := lw_get (k := i + 2) hi hx
  refine ⟨w2, hq, ?_⟩
  simp only [s0_125, s0_126 hr1, s0_129, s0_130 hr2, s0_133, nI_1, nI_2, g1, g2, Option.bind_some, c1, c2, Option.toList_some, List.cons_append, List.nil_append, if_true]
theorem lw_c2 {xs : List Int32} {i : Nat} {w : ex_W} {Q : ex_W → Prop} (hi : i + 2 < xs.length) (hx : xs.length < 2 ^ 20) (h : pr 5 134 [.int (xs.getD (i + 1) 0), .int (xs.getD (i + 2) 0)] w Q) : ∃ w2, Q w2 ∧ ex_go (some xs) 0 138 [(0, .ref 1000), (1, .ref 0), (2, .ref 32), (3, .int (nI i))] [] w = ex_go (some xs) 0 315 [(0, .ref 1000), (1, .ref 0), (2, .ref 32), (3, .int (nI i))] [] w2 := by
  obtain ⟨r, w1, w2, hr1, c1, hr2, c2, hq⟩ := h
  have c1 := ex_call_up (xs := xs) c1
  have c2 := ex_call_up (xs := xs) c2
  have n1 : ¬ nI (i + 1) < 0 := nI_pos (by omega)
  have n2 : ¬ nI (i + 2) < 0 := nI_pos (by omega)
  have g1 := lw_get (k := i + 1) (show i + 1 < xs.length by omega) hx
  have g2 := lw_get (k := i + 2) hi hx
  refine ⟨w2, hq, ?_⟩
  simp only [s0_138, s0_139, s0_140, s0_141, s0_142, s0_143 n1, s0_144, s0_145, s0_146, s0_147, s0_148 n2, s0_149 hr1, s0_152, s0_153, s0_154, s0_155, s0_156, s0_157 n1, s0_158, s0_159, s0_160, s0_161, s0_162 n2, s0_163 hr2, s0_166, nI_1, nI_2, g1, g2, Option.bind_some, c1, c2, Option.toList_some, List.cons_append, List.nil_append, if_true]
theorem lw_c3 {xs : List Int32} {i : Nat} {w : ex_W} {Q : ex_W → Prop} (hi : i + 2 < xs.length) (hx : xs.length < 2 ^ 20) (h : pr 7 135 [] w Q) : ∃ w2, Q w2 ∧ ex_go (some xs) 0 171 [(0, .ref 1000), (1, .ref 0), (2, .ref 32), (3, .int (nI i))] [] w = ex_go (some xs) 0 315 [(0, .ref 1000), (1, .ref 0), (2, .ref 32), (3, .int (nI i))] [] w2 := by
  obtain ⟨r, w1, w2, hr1, c1, hr2, c2, hq⟩ := h
  have c1 := ex_call_up (xs := xs) c1
  have c2 := ex_call_up (xs := xs) c2
  have n1 : ¬ nI (i + 1) < 0 := nI_pos (by omega)
  have n2 : ¬ nI (i + 2) < 0 := nI_pos (by omega)
  have g1 := lw_get (k := i + 1) (show i + 1 < xs.length by omega) hx
  have g2 := lw_get (k := i + 2) hi hx
  refine ⟨w2, hq, ?_⟩
  simp only [s0_171, s0_172 hr1, s0_175, s0_176 hr2, s0_179, nI_1, nI_2, g1, g2, Option.bind_some, c1, c2, Option.toList_some, List.cons_append, List.nil_append, if_true]
theorem lw_c4 {xs : List Int32} {i : Nat} {w : ex_W} {Q : ex_W → Prop} (hi : i + 2 < xs.length) (hx : xs.length < 2 ^ 20) (h : pr 8 160 [] w Q) : ∃ w2, Q w2 ∧ ex_go (some xs) 0 184 [(0, .ref 1000), (1, .ref 0), (2, .ref 32), (3, .int (nI i))] [] w = ex_go (some xs) 0 315 [(0, .ref 1000), (1, .ref 0), (2, .ref 32), (3, .int (nI i))] [] w2 := by
  obtain ⟨r, w1, w2, hr1, c1, hr2, c2, hq⟩ := h
  have c1 := ex_call_up (xs := xs) c1
  have c2 := ex_call_up (xs := xs) c2
  have n1 : ¬ nI (i + 1) < 0 := nI_pos (by omega)
  have n2 : ¬ nI (i + 2) < 0 := nI_pos (by omega)
  have g1 := lw_get (k := i + 1) (show i + 1 < xs.length by omega) hx
  have g2 := lw_get (k := i + 2) hi hx
  refine ⟨w2, hq, ?_⟩
  simp only [s0_184, s0_185 hr1, s0_188, s0_189 hr2, s0_192, nI_1, nI_2, g1, g2, Option.bind_some, c1, c2, Option.toList_some, List.cons_append, List.nil_append, if_true]
theorem lw_c5 {xs : List Int32} {i : Nat} {w : ex_W} {Q : ex_W → Prop} (hi : i + 2 < xs.length) (hx : xs.length < 2 ^ 20) (h : pr 9 161 [.int (xs.getD (i + 1) 0)] w Q) : ∃ w2, Q w2 ∧ ex_go (some xs) 0 197 [(0, .ref 1000), (1, .ref 0), (2, .ref 32), (3, .int (nI i))] [] w = ex_go (some xs) 0 315 [(0, .ref 1000), (1, .ref 0), (2, .ref 32), (3, .int (nI i))] [] w2 := by
  obtain ⟨r, w1, w2, hr1, c1, hr2, c2, hq⟩ := h
  have c1 := ex_call_up (xs := xs) c1
  have c2 := ex_call_up (xs := xs) c2
  have n1 : ¬ nI (i + 1) < 0 := nI_pos (by omega)
  have n2 : ¬ nI (i + 2) < 0 := nI_pos (by omega)
  have g1 := lw_get (k := i + 1) (show i + 1 < xs.length by omega) hx
  have g2 := lw_get (k := i + 2) hi hx
  refine ⟨w2, hq, ?_⟩
  simp only [s0_197, s0_198, s0_199, s0_200, s0_201, s0_202 n1, s0_203 hr1, s0_206, s0_207, s0_208, s0_209, s0_210, s0_211 n1, s0_212 hr2, s0_215, nI_1, nI_2, g1, g2, Option.bind_some, c1, c2, Option.toList_some, List.cons_append, List.nil_append, if_true]
theorem lw_c6 {xs : List Int32} {i : Nat} {w : ex_W} {Q : ex_W → Prop} (hi : i + 2 < xs.length) (hx : xs.length < 2 ^ 20) (h : pr 10 162 [] w Q) : ∃ w2, Q w2 ∧ ex_go (some xs) 0 220 [(0, .ref 1000), (1, .ref 0), (2, .ref 32), (3, .int (nI i))] [] w = ex_go (some xs) 0 315 [(0, .ref 1000), (1, .ref 0), (2, .ref 32), (3, .int (nI i))] [] w2 := by
  obtain ⟨r, w1, w2, hr1, c1, hr2, c2, hq⟩ := h
  have c1 := ex_call_up (xs := xs) c1
  have c2 := ex_call_up (xs := xs) c2
  have n1 : ¬ nI (i + 1) < 0 := nI_pos (by omega)
  have n2 : ¬ nI (i + 2) < 0 := nI_pos (by omega)
  have g1 := lw_get (k := i + 1) (show i + 1 < xs.length by omega) hx
  have g2 := lw_get (k := i + 2) hi hx
  refine ⟨w2, hq, ?_⟩
  simp only [s0_220, s0_221 hr1, s0_224, s0_225 hr2, s0_228, nI_1, nI_2, g1, g2, Option.bind_some, c1, c2, Option.toList_some, List.cons_append, List.nil_append, if_true]
theorem lw_c7 {xs : List Int32} {i : Nat} {w : ex_W} {Q : ex_W → Prop} (hi : i + 2 < xs.length) (hx : xs.length < 2 ^ 20) (h : pr 11 163 [.int (xs.getD (i + 1) 0)] w Q) : ∃ w2, Q w2 ∧ ex_go (some xs) 0 233 [(0, .ref 1000), (1, .ref 0), (2, .ref 32), (3, .int (nI i))] [] w = ex_go (some xs) 0 315 [(0, .ref 1000), (1, .ref 0), (2, .ref 32), (3, .int (nI i))] [] w2 := by
  obtain ⟨r, w1, w2, hr1, c1, hr2, c2, hq⟩ := h
  have c1 := ex_call_up (xs := xs) c1
  have c2 := ex_call_up (xs := xs) c2
  have n1 : ¬ nI (i + 1) < 0 := nI_pos (by omega)
  have n2 : ¬ nI (i + 2) < 0 := nI_pos (by omega)
  have g1 := lw_get (k := i + 1) (show i + 1 < xs.length by omega) hx
  have g2 := lw_get (k := i + 2) hi hx
  refine ⟨w2, hq, ?_⟩
  simp only [s0_233, s0_234, s0_235, s0_236, s0_237, s0_238 n1, s0_239 hr1, s0_242, s0_243, s0_244, s0_245, s0_246, s0_247 n1, s0_248 hr2, s0_251, nI_1, nI_2, g1, g2, Option.bind_some, c1, c2, Option.toList_some, List.cons_append, List.nil_append, if_true]
theorem lw_c8 {xs : List Int32} {i : Nat} {w : ex_W} {Q : ex_W → Prop} (hi : i + 2 < xs.length) (hx : xs.length < 2 ^ 20) (h : pr 12 164 [.int (xs.getD (i + 1) 0)] w Q) : ∃ w2, Q w2 ∧ ex_go (some xs) 0 256 [(0, .ref 1000), (1, .ref 0), (2, .ref 32), (3, .int (nI i))] [] w = ex_go (some xs) 0 315 [(0, .ref 1000), (1, .ref 0), (2, .ref 32), (3, .int (nI i))] [] w2 := by
  obtain ⟨r, w1, w2, hr1, c1, hr2, c2, hq⟩ := h
  have c1 := ex_call_up (xs := xs) c1
  have c2 := ex_call_up (xs := xs) c2
  have n1 : ¬ nI (i + 1) < 0 := nI_pos (by omega)
  have n2 : ¬ nI (i + 2) < 0 := nI_pos (by omega)
  have g1 := lw_get (k := i + 1) (show i + 1 < xs.length by omega) hx
  have g2 := lw_get (k := i + 2) hi hx
  refine ⟨w2, hq, ?_⟩
  simp only [s0_256, s0_257, s0_258, s0_259, s0_260, s0_261 n1, s0_262 hr1, s0_265, s0_266, s0_267, s0_268, s0_269, s0_270 n1, s0_271 hr2, s0_274, nI_1, nI_2, g1, g2, Option.bind_some, c1, c2, Option.toList_some, List.cons_append, List.nil_append, if_true]
theorem lw_c9 {xs : List Int32} {i : Nat} {w : ex_W} {Q : ex_W → Prop} (hi : i + 2 < xs.length) (hx : xs.length < 2 ^ 20) (h : pr 13 167 [.int (xs.getD (i + 1) 0)] w Q) : ∃ w2, Q w2 ∧ ex_go (some xs) 0 279 [(0, .ref 1000), (1, .ref 0), (2, .ref 32), (3, .int (nI i))] [] w = ex_go (some xs) 0 315 [(0, .ref 1000), (1, .ref 0), (2, .ref 32), (3, .int (nI i))] [] w2 := by
  obtain ⟨r, w1, w2, hr1, c1, hr2, c2, hq⟩ := h
  have c1 := ex_call_up (xs := xs) c1
  have c2 := ex_call_up (xs := xs) c2
  have n1 : ¬ nI (i + 1) < 0 := nI_pos (by omega)
  have n2 : ¬ nI (i + 2) < 0 := nI_pos (by omega)
  have g1 := lw_get (k := i + 1) (show i + 1 < xs.length by omega) hx
  have g2 := lw_get (k := i + 2) hi hx
  refine ⟨w2, hq, ?_⟩
  simp only [s0_279, s0_280, s0_281, s0_282, s0_283, s0_284 n1, s0_285 hr1, s0_288, s0_289, s0_290, s0_291, s0_292, s0_293 n1, s0_294 hr2, s0_297, nI_1, nI_2, g1, g2, Option.bind_some, c1, c2, Option.toList_some, List.cons_append, List.nil_append, if_true]
theorem lw_c10 {xs : List Int32} {i : Nat} {w : ex_W} {Q : ex_W → Prop} (hi : i + 2 < xs.length) (hx : xs.length < 2 ^ 20) (h : pr 14 168 [] w Q) : ∃ w2, Q w2 ∧ ex_go (some xs) 0 302 [(0, .ref 1000), (1, .ref 0), (2, .ref 32), (3, .int (nI i))] [] w = ex_go (some xs) 0 315 [(0, .ref 1000), (1, .ref 0), (2, .ref 32), (3, .int (nI i))] [] w2 := by
  obtain ⟨r, w1, w2, hr1, c1, hr2, c2, hq⟩ := h
  have c1 := ex_call_up (xs := xs) c1
  have c2 := ex_call_up (xs := xs) c2
  have n1 : ¬ nI (i + 1) < 0 := nI_pos (by omega)
  have n2 : ¬ nI (i + 2) < 0 := nI_pos (by omega)
  have g1 := lw_get (k := i + 1) (show i + 1 < xs.length by omega) hx
  have g2 := lw_get (k := i + 2) hi hx
  refine ⟨w2, hq, ?_⟩
  simp only [s0_302, s0_303 hr1, s0_306, s0_307 hr2, s0_310, nI_1, nI_2, g1, g2, Option.bind_some, c1, c2, Option.toList_some, List.cons_append, List.nil_append, if_true]
/-- every call of the law keeps the relation -/
def StepOK (P Q : ex_W → Prop) : Prop := ∀ w, P w → (∀ a b : Int32, pr 2 128 [.int a, .int b] w Q) ∧ pr 3 129 [] w Q ∧ (∀ a b : Int32, pr 5 134 [.int a, .int b] w Q) ∧ pr 7 135 [] w Q ∧ pr 8 160 [] w Q ∧ (∀ a : Int32, pr 9 161 [.int a] w Q) ∧ pr 10 162 [] w Q ∧ (∀ a : Int32, pr 11 163 [.int a] w Q) ∧ (∀ a : Int32, pr 12 164 [.int a] w Q) ∧ (∀ a : Int32, pr 13 167 [.int a] w Q) ∧ pr 14 168 [] w Q ∧ Q w
theorem lw_end {xs : List Int32} {i : Nat} {w : ex_W} (hi : xs.length < i + 3) (hx : xs.length < 2 ^ 20) (hi2 : i ≤ xs.length) : ex_go (some xs) 0 18 [(0, .ref 1000), (1, .ref 0), (2, .ref 32), (3, .int (nI i))] [] w = some (some (.int 1), w) := by
  have e : Int32.ofNat xs.length - 3 < nI i := by
    rw [Int32.lt_iff_toInt_lt, nI_toInt (by omega), show Int32.ofNat xs.length - 3 = nI xs.length - nI 3 from rfl, pk_sub_toInt (by omega) (by decide)]
    omega
  simp only [s0_18, s0_19, s0_20, s0_21, s0_22, s0_23, if_pos e, s0_321]
  exact s0_322 (Or.inr rfl)
theorem lw_iter {xs : List Int32} {i : Nat} {w : ex_W} {P Q : ex_W → Prop} (hS : StepOK P Q) (hP : P w) (hi : i + 2 < xs.length) (hx : xs.length < 2 ^ 20) : ∃ w2, Q w2 ∧ ex_go (some xs) 0 18 [(0, .ref 1000), (1, .ref 0), (2, .ref 32), (3, .int (nI i))] [] w = ex_go (some xs) 0 18 [(0, .ref 1000), (1, .ref 0), (2, .ref 32), (3, .int (nI (i + 3)))] [] w2 := by
  have e : ¬ Int32.ofNat xs.length - 3 < nI i := by
    rw [Int32.lt_iff_toInt_lt, nI_toInt (by omega), show Int32.ofNat xs.length - 3 = nI xs.length - nI 3 from rfl, pk_sub_toInt (by omega) (by decide)]
    omega
  have n0 : ¬ nI i < 0 := nI_pos (by omega)
  have g0 := lw_get (k := i) (show i < xs.length by omega) hx
  obtain ⟨k0, k1, k2, k3, k4, k5, k6, k7, k8, k9, k10, kq⟩ := hS w hP
  rw [s0_18]
  simp only [s0_19, s0_20, s0_21, s0_22, s0_23, if_neg e, s0_26, s0_27, s0_28 n0, g0, Option.bind_some, s0_29, s0_31, s0_32]
  have fin : ∀ w2, ex_go (some xs) 0 315 [(0, .ref 1000), (1, .ref 0), (2, .ref 32), (3, .int (nI i))] [] w2 = ex_go (some xs) 0 18 [(0, .ref 1000), (1, .ref 0), (2, .ref 32), (3, .int (nI (i + 3)))] [] w2 := by
    intro w2
    simp only [s0_315, s0_318, nI_3]
  by_cases h0 : xs.getD i 0 &&& 15 = 0
  · rw [if_pos h0]
    obtain ⟨w2, hq, e2⟩ := lw_c0 hi hx (k0 (xs.getD (i + 1) 0) (xs.getD (i + 2) 0))
    exact ⟨w2, hq, by rw [e2, fin]⟩
  rw [if_neg h0]
  by_cases h1 : xs.getD i 0 &&& 15 = 1
  · rw [if_pos h1]
    obtain ⟨w2, hq, e2⟩ := lw_c1 hi hx (k1)
    exact ⟨w2, hq, by rw [e2, fin]⟩
  rw [if_neg h1]
  by_cases h2 : xs.getD i 0 &&& 15 = 2
  · rw [if_pos h2]
    obtain ⟨w2, hq, e2⟩ := lw_c2 hi hx (k2 (xs.getD (i + 1) 0) (xs.getD (i + 2) 0))
    exact ⟨w2, hq, by rw [e2, fin]⟩
  rw [if_neg h2]
  by_cases h3 : xs.getD i 0 &&& 15 = 3
  · rw [if_pos h3]
    obtain ⟨w2, hq, e2⟩ := lw_c3 hi hx (k3)
    exact ⟨w2, hq, by rw [e2, fin]⟩
  rw [if_neg h3]
  by_cases h4 : xs.getD i 0 &&& 15 = 4
  · rw [if_pos h4]
    obtain ⟨w2, hq, e2⟩ := lw_c4 hi hx (k4)
    exact ⟨w2, hq, by rw [e2, fin]⟩
  rw [if_neg h4]
  by_cases h5 : xs.getD i 0 &&& 15 = 5
  · rw [if_pos h5]
    obtain ⟨w2, hq, e2⟩ := lw_c5 hi hx (k5 (xs.getD (i + 1) 0))
    exact ⟨w2, hq, by rw [e2, fin]⟩
  rw [if_neg h5]
  by_cases h6 : xs.getD i 0 &&& 15 = 6
  · rw [if_pos h6]
    obtain ⟨w2, hq, e2⟩ := lw_c6 hi hx (k6)
    exact ⟨w2, hq, by rw [e2, fin]⟩
  rw [if_neg h6]
  by_cases h7 : xs.getD i 0 &&& 15 = 7
  · rw [if_pos h7]
    obtain ⟨w2, hq, e2⟩ := lw_c7 hi hx (k7 (xs.getD (i + 1) 0))
    exact ⟨w2, hq, by rw [e2, fin]⟩
  rw [if_neg h7]
  by_cases h8 : xs.getD i 0 &&& 15 = 8
  · rw [if_pos h8]
    obtain ⟨w2, hq, e2⟩ := lw_c8 hi hx (k8 (xs.getD (i + 1) 0))
    exact ⟨w2, hq, by rw [e2, fin]⟩
  rw [if_neg h8]
  by_cases h9 : xs.getD i 0 &&& 15 = 9
  · rw [if_pos h9]
    obtain ⟨w2, hq, e2⟩ := lw_c9 hi hx (k9 (xs.getD (i + 1) 0))
    exact ⟨w2, hq, by rw [e2, fin]⟩
  rw [if_neg h9]
  by_cases h10 : xs.getD i 0 &&& 15 = 10
  · rw [if_pos h10]
    obtain ⟨w2, hq, e2⟩ := lw_c10 hi hx (k10)
    exact ⟨w2, hq, by rw [e2, fin]⟩
  rw [if_neg h10]
  exact ⟨w, kq, fin w⟩
theorem lw_loop {xs : List Int32} {I : Nat → ex_W → Prop} (hS : ∀ k, StepOK (I (k + 1)) (I k)) (hx : xs.length < 2 ^ 20) : ∀ (k i : Nat) (w : ex_W), I k w → i ≤ xs.length → xs.length < i + 3 * k + 3 → ∃ w9 j, I j w9 ∧ ex_go (some xs) 0 18 [(0, .ref 1000), (1, .ref 0), (2, .ref 32), (3, .int (nI i))] [] w = some (some (.int 1), w9) := by
  intro k
  induction k with
  | zero =>
    intro i w hI hi hk
    exact ⟨w, 0, hI, lw_end (by omega) hx hi⟩
  | succ k ih =>
    intro i w hI hi hk
    by_cases hz : i + 2 < xs.length
    · obtain ⟨w2, h2, e2⟩ := lw_iter (hS k) hI hz hx
      obtain ⟨w9, j, h9, e9⟩ := ih (i + 3) w2 h2 (by omega) (by omega)
      exact ⟨w9, j, h9, by rw [e2, e9]⟩
    · exact ⟨w, k + 1, hI, lw_end (by omega) hx hi⟩
