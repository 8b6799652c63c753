/-! the words of a text that was told -/
def tokOK (t : List Nat) : Prop := ¬ t = [] ∧ (∀ c, c ∈ t → 33 ≤ c ∧ c ≤ 126) ∧ ∀ r, t = 64 :: r → ∃ c, c < 60 ∧ r = nB c
def flatT (L : List (List Nat × Nat)) : List Nat := (L.map (fun x => x.1 ++ [x.2])).flatten
def tk (S : List Nat) : Prop := ∃ L : List (List Nat × Nat), S = flatT L ∧ ∀ x, x ∈ L → tokOK x.1 ∧ gapC x.2
def tq (S : List Nat) : Prop := ∀ g, gapC g → tk (S ++ [g])
theorem tk_nil : tk [] := ⟨[], rfl, fun x h => (by cases h)⟩
theorem flatT_app {a c : List (List Nat × Nat)} : flatT (a ++ c) = flatT a ++ flatT c := by
  unfold flatT
  rw [List.map_append, List.flatten_append]
theorem tk_app {a c : List Nat} (h1 : tk a) (h2 : tk c) : tk (a ++ c) := by
  obtain ⟨L1, e1, k1⟩ := h1
  obtain ⟨L2, e2, k2⟩ := h2
  refine ⟨L1 ++ L2, by rw [e1, e2, flatT_app], fun x hx => ?_⟩
  rcases List.mem_append.mp hx with h | h
  · exact k1 x h
  · exact k2 x h
theorem tk_tok {t : List Nat} {g : Nat} (h : tokOK t) (hg : gapC g) : tk (t ++ [g]) := ⟨[(t, g)], by unfold flatT; simp only [List.map_cons, List.map_nil, List.flatten_cons, List.flatten_nil, List.append_nil], fun x hx => by rw [List.mem_singleton] at hx; rw [hx]; exact ⟨h, hg⟩⟩
theorem tq_tok {t : List Nat} (h : tokOK t) : tq t := fun g hg => tk_tok h hg
theorem tq_sp {S t : List Nat} (h1 : tq S) (h2 : tokOK t) : tq (S ++ 32 :: t) := by
  intro g hg
  have := tk_app (h1 32 (Or.inl rfl)) (tk_tok h2 hg)
  simp only [List.append_assoc, List.cons_append, List.nil_append] at this ⊢
  exact this
theorem tq_ln {S : List Nat} (h : tq S) : tk (S ++ [10]) := h 10 (Or.inr rfl)
theorem tk_q {S t : List Nat} (h1 : tk S) (h2 : tq t) : tq (S ++ t) := by
  intro g hg
  rw [List.append_assoc]
  exact tk_app h1 (h2 g hg)
theorem tok_gap {t : List Nat} (h : tokOK t) {c : Nat} (hc : c ∈ t) : ¬ gapC c := by
  have := h.2.1 c hc
  intro z
  rcases z with z | z <;> omega
/-- its letters are line ends or no control characters -/
theorem tk_ch {S : List Nat} (h : tk S) : chOK S ∧ ∀ j, S.getD j 0 < 256 := by
  obtain ⟨L, e, k⟩ := h
  have m : ∀ (L : List (List Nat × Nat)), (∀ x, x ∈ L → tokOK x.1 ∧ gapC x.2) → ∀ c, c ∈ flatT L → (c = 10 ∨ 32 ≤ c) ∧ c < 256 := by
    intro L k c hc
    unfold flatT at hc
    obtain ⟨l, hl, hcl⟩ := List.mem_flatten.mp hc
    obtain ⟨x, hx, ex⟩ := List.mem_map.mp hl
    rw [← ex] at hcl
    obtain ⟨k1, k2⟩ := k x hx
    rcases List.mem_append.mp hcl with h | h
    · have := k1.2.1 c h
      omega
    · rw [List.mem_singleton] at h
      rcases k2 with z | z <;> omega
  have m2 := m L k
  rw [← e] at m2
  constructor
  · intro j hj
    have := m2 (S.getD j 0) (by rw [List.getD_eq_getElem?_getD, List.getElem?_eq_getElem hj]; exact List.getElem_mem hj)
    exact this.1
  · intro j
    by_cases c : j < S.length
    · exact (m2 (S.getD j 0) (by rw [List.getD_eq_getElem?_getD, List.getElem?_eq_getElem c]; exact List.getElem_mem c)).2
    · rw [getD_out (by omega)]
      decide
theorem skG_step {S : List Nat} {p : Nat} (hp : p < S.length) (h : gapC (S.getD p 0)) : wF S p = wF S (p + 1) := by
  unfold wF
  obtain ⟨k, hk⟩ : ∃ k, S.length - p = k + 1 := ⟨S.length - p - 1, by omega⟩
  rw [hk, skG, if_pos h, show S.length - (p + 1) = k by omega]
theorem skG_stay {S : List Nat} {p : Nat} (h : ¬ gapC (S.getD p 0)) : wF S p = p := by
  unfold wF
  cases hk : S.length - p with
  | zero => rfl
  | succ k => rw [skG, if_neg h]
theorem skW_tok {S : List Nat} : ∀ (t : List Nat) (k p : Nat), (∀ i, i < t.length → ¬ gapC (S.getD (p + i) 0)) → t.length < k → gapC (S.getD (p + t.length) 0) → skW S k p = p + t.length := by
  intro t
  induction t with
  | nil =>
    intro k p _ hk hg
    cases k with
    | zero => exact absurd hk (Nat.not_lt_zero _)
    | succ k =>
      have hg : gapC (S.getD p 0) := hg
      rw [skW, if_pos hg]
      rfl
  | cons c t ih =>
    intro k p h hk hg
    cases k with
    | zero => exact absurd hk (Nat.not_lt_zero _)
    | succ k =>
      rw [List.length_cons] at hk hg h
      have h0 : ¬ gapC (S.getD p 0) := h 0 (by omega)
      rw [skW, if_neg h0, ih k (p + 1) (fun i hi => by rw [show p + 1 + i = p + (i + 1) by omega]; exact h (i + 1) (by omega)) (by omega) (by rw [show p + 1 + t.length = p + (t.length + 1) by omega]; exact hg), List.length_cons]
      omega
theorem tok_at {S : List Nat} : ∀ (L : List (List Nat × Nat)) (pre : List Nat) (p : Nat), S = pre ++ flatT L → (∀ x, x ∈ L → tokOK x.1 ∧ gapC x.2) → pre.length ≤ p → (p = pre.length ∨ wE S p) → p ≤ S.length → wF S p = S.length ∨ ∃ x pre2 post, x ∈ L ∧ S = pre2 ++ x.1 ++ x.2 :: post ∧ wF S p = pre2.length := by
  intro L
  induction L with
  | nil =>
    intro pre p e _ h1 _ h2
    left
    have e2 : S = pre := by rw [e]; exact List.append_nil _
    have : S.length = pre.length := by rw [e2]
    have wb := w_b h2
    omega
  | cons x L ih =>
    intro pre p e k h1 hE h2
    have kx := k x List.mem_cons_self
    have e1 : S = pre ++ x.1 ++ x.2 :: flatT L := by
      rw [e]
      unfold flatT
      rw [List.map_cons, List.flatten_cons]
      simp only [List.append_assoc, List.cons_append, List.nil_append]
    have e2 : S = (pre ++ x.1 ++ [x.2]) ++ flatT L := by
      rw [e1]
      simp only [List.append_assoc, List.cons_append, List.nil_append]
    have gt : ∀ i, i < x.1.length → S.getD (pre.length + i) 0 = x.1.getD i 0 := fun i hi => by rw [e1]; exact mid_get hi
    have gm : ∀ i, i < x.1.length → ¬ gapC (S.getD (pre.length + i) 0) := fun i hi => by
      rw [gt i hi]
      exact tok_gap kx.1 (by rw [List.getD_eq_getElem?_getD, List.getElem?_eq_getElem hi]; exact List.getElem_mem hi)
    have gs : S.getD (pre.length + x.1.length) 0 = x.2 := by
      rw [e1, ← List.length_append]
      exact getD_mid.1
    have lx : 0 < x.1.length := by
      cases h : x.1 with
      | nil => exact absurd h kx.1.1
      | cons a r => rw [List.length_cons]; omega
    have ls : S.length = pre.length + x.1.length + 1 + (flatT L).length := by
      rw [e1, List.length_append, List.length_append, List.length_cons]
      omega
    have pl : (pre ++ x.1 ++ [x.2]).length = pre.length + x.1.length + 1 := by rw [List.length_append, List.length_append, List.length_singleton]
    by_cases c1 : p = pre.length
    · right
      refine ⟨x, pre, flatT L, List.mem_cons_self, e1, ?_⟩
      have g0 := gm 0 lx
      rw [Nat.add_zero] at g0
      rw [c1, skG_stay g0]
    · have hE : wE S p := by
        rcases hE with z | z
        · exact absurd z c1
        · exact z
      have c2 : ¬ p < pre.length + x.1.length := by
        intro z
        have := gm (p - pre.length) (by omega)
        rw [show pre.length + (p - pre.length) = p by omega] at this
        exact this (hE (by omega))
      have fin : ∀ p2, pre.length + x.1.length + 1 ≤ p2 → (p2 = pre.length + x.1.length + 1 ∨ wE S p2) → p2 ≤ S.length → wF S p2 = S.length ∨ ∃ y pre2 post, y ∈ x :: L ∧ S = pre2 ++ y.1 ++ y.2 :: post ∧ wF S p2 = pre2.length := by
        intro p2 h3 h4 h5
        rcases ih (pre ++ x.1 ++ [x.2]) p2 e2 (fun y hy => k y (List.mem_cons_of_mem _ hy)) (by omega) (by rw [pl]; exact h4) h5 with z | ⟨y, pre2, post, z1, z2, z3⟩
        · exact Or.inl z
        · exact Or.inr ⟨y, pre2, post, List.mem_cons_of_mem _ z1, z2, z3⟩
      by_cases c3 : p = pre.length + x.1.length
      · have gg : gapC (S.getD p 0) := by rw [c3, gs]; exact kx.2
        rw [skG_step (by omega) gg]
        exact fin (p + 1) (by omega) (Or.inl (by omega)) (by omega)
      · exact fin p (by omega) (Or.inr hE) h2
/-- letters as a number -/
def nuL : List Nat → Nat → Option Nat
  | [], N => some N
  | c :: r, N => if 48 ≤ c ∧ c ≤ 57 then nuL r (10 * N + (c - 48)) else none
theorem nuV_L {S : List Nat} : ∀ (t : List Nat) (i N : Nat), (∀ j, j < t.length → S.getD (i + j) 0 = t.getD j 0) → nuV S t.length i N = nuL t N := by
  intro t
  induction t with
  | nil => intro i N _; rfl
  | cons c t ih =>
    intro i N h
    have h0 := h 0 (by rw [List.length_cons]; omega)
    rw [Nat.add_zero] at h0
    have h0 : S.getD i 0 = c := h0
    rw [List.length_cons, nuV, nuL, h0, ih (i + 1) _ (fun j hj => by
      have := h (j + 1) (by rw [List.length_cons]; omega)
      rw [show i + 1 + j = i + (j + 1) by omega, this]
      rfl)]
theorem nuL_nB : ∀ c, c < 60 → nuL (nB c) 0 = some c := by decide +kernel
theorem tk_rdL {S : List Nat} (h : tk S) {p N : Nat} (hp : p ≤ S.length) (hE : wE S p) (hN : rdL S p = some N) : N < 60 := by
  obtain ⟨L, e, k⟩ := h
  have wb := w_b hp
  have lt := rdL_lt hp hN
  rcases tok_at L [] p (by rw [e]; rfl) k (Nat.zero_le _) (Or.inr hE) hp with z | ⟨x, pre, post, z1, z2, z3⟩
  · omega
  · obtain ⟨k1, k2⟩ := k x z1
    have gt : ∀ i, i < x.1.length → S.getD (pre.length + i) 0 = x.1.getD i 0 := fun i hi => by rw [z2]; exact mid_get hi
    have gs : S.getD (pre.length + x.1.length) 0 = x.2 := by
      rw [z2, ← List.length_append]
      exact getD_mid.1
    have ls : S.length = pre.length + x.1.length + 1 + post.length := by
      rw [z2, List.length_append, List.length_append, List.length_cons]
      omega
    have et : wT S p = pre.length + x.1.length := by
      unfold wT
      rw [z3]
      exact skW_tok x.1 _ _ (fun i hi => by
        rw [gt i hi]
        exact tok_gap k1 (by rw [List.getD_eq_getElem?_getD, List.getElem?_eq_getElem hi]; exact List.getElem_mem hi)) (by omega) (by rw [gs]; exact k2)
    unfold rdL at hN
    split at hN
    next c64 =>
      rw [z3] at c64 hN
      rw [et] at hN
      cases hx : x.1 with
      | nil => exact absurd hx k1.1
      | cons a r =>
        have ea : a = 64 := by
          have := gt 0 (by rw [hx, List.length_cons]; omega)
          rw [Nat.add_zero, c64, hx] at this
          exact this.symm
        subst ea
        obtain ⟨c, hc, er⟩ := k1.2.2 r hx
        have lr : x.1.length = r.length + 1 := by rw [hx, List.length_cons]
        unfold numW at hN
        split at hN
        next c1 =>
          have hv := nuV_L (S := S) r (pre.length + 1) 0 (fun j hj => by
            have := gt (j + 1) (by omega)
            rw [show pre.length + 1 + j = pre.length + (j + 1) by omega, this, hx]
            rfl)
          rw [show pre.length + x.1.length - (pre.length + 1) = r.length by omega, hv, er, nuL_nB c hc] at hN
          cases hN
          exact hc
        next => cases hN
    next => cases hN
theorem ln_told {S : List Nat} (h : tk S) : lnJ S (fun _ l => l ≤ 60) := by
  refine ⟨fun p => Nat.zero_le _, fun p q l _ h => h, fun p l hp hE hj hN => ?_⟩
  have := tk_rdL h hp hE hN
  exact ⟨by omega, by show l + 1 ≤ 60; omega⟩
/-! a typed text has few lines @K -/
theorem nuV_lt {S : List Nat} : ∀ (k i N N2 : Nat), nuV S k i N = some N2 → N2 < (N + 1) * 10 ^ k := by
  intro k
  induction k with
  | zero => intro i N N2 h; rw [nuV] at h; cases h; rw [Nat.pow_zero]; omega
  | succ k ih =>
    intro i N N2 h
    rw [nuV] at h
    split at h
    next c =>
      have := ih _ _ _ h
      have e : (10 * N + (S.getD i 0 - 48) + 1) * 10 ^ k ≤ (N + 1) * 10 ^ (k + 1) := by
        rw [Nat.pow_succ, Nat.mul_comm (10 ^ k) 10, ← Nat.mul_assoc]
        exact Nat.mul_le_mul_right _ (by omega)
      omega
    next => cases h
def tyJ (S : List Nat) (p l : Nat) : Prop := l = 0 ∨ ∃ e, e ≤ p ∧ wE S e ∧ e ≤ S.length ∧ 3 * l ≤ e + 1 ∧ (10 ≤ l → 4 * l ≤ e + 11)
theorem ln_typed {S : List Nat} (h200 : S.length ≤ 200) : lnJ S (tyJ S) := by
  refine ⟨fun p => Or.inl rfl, fun p q l hpq h => ?_, fun p l hp hE hj hN => ?_⟩
  · rcases h with h | ⟨e, h1, h2⟩
    · exact Or.inl h
    · exact Or.inr ⟨e, by omega, h2⟩
  · have wb := w_b hp
    have lt := rdL_lt hp hN
    -- how many letters
    have hw : wF S p + 2 ≤ wT S p ∧ (10 ≤ l → wF S p + 3 ≤ wT S p) := by
      unfold rdL at hN
      split at hN
      next =>
        unfold numW at hN
        split at hN
        next c =>
          have b := nuV_lt _ _ _ _ hN
          refine ⟨by omega, fun hl => ?_⟩
          by_cases z : wT S p - (wF S p + 1) = 1
          · rw [z] at b
            omega
          · omega
        next => cases hN
      next => cases hN
    have hnE := wT_E hp
    have key : 3 * (l + 1) ≤ wT S p + 1 ∧ (10 ≤ l + 1 → 4 * (l + 1) ≤ wT S p + 11) := by
      rcases hj with h | ⟨e, h1, h2, h3, h4, h5⟩
      · omega
      · have ge : e + 1 ≤ wF S p := by
          by_cases z : wF S p = e
          · have gn := wb.2.2.2.2 (wF S p) (Nat.le_refl _) lt
            exact absurd (h2 (by omega)) (by rw [← z]; exact gn)
          · omega
        by_cases l10 : 10 ≤ l
        · have := h5 l10
          have := hw.2 l10
          omega
        · omega
    refine ⟨by omega, Or.inr ⟨wT S p, Nat.le_refl _, hnE, wb.2.2.1, key⟩⟩
