/-! the places that a code's distances go to -/
def dsN (B : List Nat) (c : Nat) : Int := if 127 < B.getD c 0 then (B.getD c 0 : Int) * 256 + B.getD (c + 1) 0 - 65536 else (B.getD c 0 : Int) * 256 + B.getD (c + 1) 0
def d32 (B : List Nat) (c : Nat) : Int32 := Int32.ofInt (dsN B c)
theorem dsN_b {B : List Nat} (hB : ∀ j, B.getD j 0 < 256) (c : Nat) : -32768 ≤ dsN B c ∧ dsN B c ≤ 32767 := by
  have h0 := hB c
  have h1 := hB (c + 1)
  unfold dsN
  split <;> omega
theorem d32_toInt {B : List Nat} (hB : ∀ j, B.getD j 0 < 256) (c : Nat) : (d32 B c).toInt = dsN B c := by
  have := dsN_b hB c
  unfold d32
  have hs : Int32.size = 4294967296 := rfl
  rw [Int32.toInt_ofInt, hs, Int.bmod_eq_of_le (by omega) (by omega)]
theorem wd2_toInt {B : List Nat} (hB : ∀ j, B.getD j 0 < 256) (c : Nat) : (wdN B c 2).toInt = dsN B c := by
  have h0 := hB c
  have h1 := hB (c + 1)
  have l0 : ((nI (B.getD c 0)).toInt64).toInt = (B.getD c 0 : Int) := by rw [Int32.toInt_toInt64, nI_toInt (by omega)]
  have l1 : ((nI (B.getD (c + 1) 0)).toInt64).toInt = (B.getD (c + 1) 0 : Int) := by rw [Int32.toInt_toInt64, nI_toInt (by omega)]
  have e256 : (256 : Int64).toInt = 256 := rfl
  have b0 : (wdN B c 0).toInt = if 127 < B.getD c 0 then -1 else 0 := by
    rw [wdN]
    split <;> rfl
  have b1 : (wdN B c 1).toInt = (if 127 < B.getD c 0 then -1 else 0) * 256 + (B.getD c 0 : Int) := by
    rw [wdN, Int64.toInt_add, Int64.toInt_mul, b0, e256, Nat.add_zero, l0]
    split
    · rw [Int.bmod_eq_of_le (n := -1 * 256) (by omega) (by omega), Int.bmod_eq_of_le (by omega) (by omega)]
    · rw [Int.bmod_eq_of_le (n := 0 * 256) (by omega) (by omega), Int.bmod_eq_of_le (by omega) (by omega)]
  rw [wdN, Int64.toInt_add, Int64.toInt_mul, b1, e256, l1]
  unfold dsN
  split
  · rw [Int.bmod_eq_of_le (n := (-1 * 256 + (B.getD c 0 : Int)) * 256) (by omega) (by omega), Int.bmod_eq_of_le (by omega) (by omega)]
    omega
  · rw [Int.bmod_eq_of_le (n := (0 * 256 + (B.getD c 0 : Int)) * 256) (by omega) (by omega), Int.bmod_eq_of_le (by omega) (by omega)]
    omega
theorem wd2 {B : List Nat} (hB : ∀ j, B.getD j 0 < 256) (c : Nat) : (wdN B c 2).toInt32 = d32 B c := by
  have := dsN_b hB c
  apply Int32.toInt_inj.mp
  rw [d32_toInt hB, Jvm.Kit.i32_of_i64 (by rw [wd2_toInt hB]; omega) (by rw [wd2_toInt hB]; omega), wd2_toInt hB]
section DIST
variable {X : Option (List Int32)} {w : ex_W} {m : Nat → Int32} {v : Int64} {bs : List Int32} {B : List Nat} {c : Nat}
theorem y_distance (M : isB w m v bs B) (hc : c + 1 < B.length) : ex_call X 124 [.ref 32, .int (nI c)] w = some (some (.int (d32 B c)), w) := by
  have g : ex_gf w 32 8 0 = some (.ref 33) := (ex_gf_i M.1).trans mo_0
  have h0 := y_blk M (p := c) (by omega)
  have h1 := y_blk M (p := c + 1) hc
  have hb0 := M.2.2.2.2 c
  have hb1 := M.2.2.2.2 (c + 1)
  have mu : nI (B.getD c 0) * 256 = nI (B.getD c 0 * 256) := pk_mul _ 256
  show ex_go X 124 0 [(0, .ref 32), (1, .int (nI c))] [] w = _
  have e : d32 B c = if nI (B.getD c 0 * 256 + B.getD (c + 1) 0) ≤ 32767 then nI (B.getD c 0 * 256 + B.getD (c + 1) 0) else nI (B.getD c 0 * 256 + B.getD (c + 1) 0) - 65536 := by
    apply Int32.toInt_inj.mp
    rw [d32_toInt M.2.2.2.2]
    unfold dsN
    by_cases q : 127 < B.getD c 0
    · have e1 : ¬ nI (B.getD c 0 * 256 + B.getD (c + 1) 0) ≤ 32767 := nI_ge (a := 32767) (by omega) (by omega)
      rw [if_pos q, if_neg e1, Int32.toInt_sub, nI_toInt (by omega), show (65536 : Int32).toInt = 65536 from rfl, Int.bmod_eq_of_le (by omega) (by omega)]
      omega
    · have e1 : nI (B.getD c 0 * 256 + B.getD (c + 1) 0) ≤ 32767 := nI_le (b := 32767) (by omega) (by decide)
      rw [if_neg q, if_pos e1, nI_toInt (by omega)]
      omega
  rw [e]
  by_cases q : nI (B.getD c 0 * 256 + B.getD (c + 1) 0) ≤ 32767
  · simp (disch := first | assumption | decide) only [s124_0, s124_1, s124_4, s124_5, s124_6, s124_9, s124_10, s124_11, s124_14, s124_15, s124_16, s124_17, s124_18, s124_19, s124_20, s124_21, s124_24, s124_27, s124_28, s124_30, s124_31, s124_34, s124_35, g, List.getElem?_cons_zero, List.getElem?_cons_succ, Option.bind_some, Option.toList_some, Option.toList_none, List.cons_append, List.nil_append, h0, nI_1, h1, mu, nI_add, if_pos q]
  · simp (disch := first | assumption | decide) only [s124_0, s124_1, s124_4, s124_5, s124_6, s124_9, s124_10, s124_11, s124_14, s124_15, s124_16, s124_17, s124_18, s124_19, s124_20, s124_21, s124_24, s124_27, s124_28, s124_30, s124_31, s124_34, s124_35, g, List.getElem?_cons_zero, List.getElem?_cons_succ, Option.bind_some, Option.toList_some, Option.toList_none, List.cons_append, List.nil_append, h0, nI_1, h1, mu, nI_add, if_neg q]
end DIST
/-- where distance q of the instruction at p goes to -/
def tgI (B : List Nat) (f p q : Nat) : Int32 := nI (p - f) + d32 B (p + headN (B.getD p 0) + 2 * q)
/-- some instruction of L before place f + i goes to place z, or one of the first k distances of the one at f + i -/
def hitI (B : List Nat) (f : Nat) (L : List Nat) (i k z : Nat) : Prop := (∃ p, p ∈ L ∧ p < f + i ∧ ∃ q, q < distN B p ∧ tgI B f p q = nI z) ∨ ∃ q, q < k ∧ tgI B f (f + i) q = nI z
theorem hitI_next {B : List Nat} {f : Nat} {L : List Nat} {i z : Nat} (hi : f + i ∈ L) : hitI B f L i (distN B (f + i)) z ↔ hitI B f L (i + 1) 0 z := by
  unfold hitI
  constructor
  · rintro (⟨p, h1, h2, q, h3, h4⟩ | ⟨q, h3, h4⟩)
    · exact Or.inl ⟨p, h1, by omega, q, h3, h4⟩
    · exact Or.inl ⟨f + i, hi, by omega, q, h3, h4⟩
  · rintro (⟨p, h1, h2, q, h3, h4⟩ | ⟨q, h3, h4⟩)
    · by_cases e : p = f + i
      · subst e
        exact Or.inr ⟨q, h3, h4⟩
      · exact Or.inl ⟨p, h1, by omega, q, h3, h4⟩
    · omega
theorem hitI_skip {B : List Nat} {f : Nat} {L : List Nat} {i z : Nat} (hi : ¬ f + i ∈ L) : hitI B f L i 0 z ↔ hitI B f L (i + 1) 0 z := by
  unfold hitI
  constructor
  · rintro (⟨p, h1, h2, q, h3, h4⟩ | ⟨q, h3, h4⟩)
    · exact Or.inl ⟨p, h1, by omega, q, h3, h4⟩
    · omega
  · rintro (⟨p, h1, h2, q, h3, h4⟩ | ⟨q, h3, h4⟩)
    · by_cases e : p = f + i
      · subst e
        exact absurd h1 hi
      · exact Or.inl ⟨p, h1, by omega, q, h3, h4⟩
    · omega
theorem hitI_step {B : List Nat} {f : Nat} {L : List Nat} {i k z : Nat} : hitI B f L i (k + 1) z ↔ hitI B f L i k z ∨ tgI B f (f + i) k = nI z := by
  unfold hitI
  constructor
  · rintro (h | ⟨q, h3, h4⟩)
    · exact Or.inl (Or.inl h)
    · by_cases e : q = k
      · subst e
        exact Or.inr h4
      · exact Or.inl (Or.inr ⟨q, by omega, h4⟩)
  · rintro ((h | ⟨q, h3, h4⟩) | h)
    · exact Or.inl h
    · exact Or.inr ⟨q, by omega, h4⟩
    · exact Or.inr ⟨k, by omega, h⟩
theorem stL_mem {B : List Nat} {e : Nat} : ∀ (k p q : Nat), q ∈ stL B e k p → p ≤ q ∧ q < e := by
  intro k
  induction k with
  | zero => intro p q h; cases h
  | succ k ih =>
    intro p q h
    rw [stL] at h
    split at h
    next c =>
      rcases List.mem_cons.mp h with h | h
      · omega
      · split at h
        next => cases h
        next =>
          have := ih _ _ h
          omega
    next => cases h
/-- a clear code: what its starts are -/
theorem clr_step {B : List Nat} {e k p : Nat} (h : clrN B e (k + 1) p = true) (hp : p < e) : ¬ widN B p e = 0 ∧ clrN B e k (p + widN B p e) = true ∧ stL B e (k + 1) p = p :: stL B e k (p + widN B p e) := by
  rw [clrN, if_pos hp] at h
  split at h
  next => cases h
  next c => exact ⟨c, h, by rw [stL, if_pos hp, if_neg c]⟩
theorem wid_le {B : List Nat} {e p : Nat} (h : ¬ widN B p e = 0) : B.getD p 0 ≤ 10 ∧ widN B p e = headN (B.getD p 0) + 2 * distN B p ∧ p + widN B p e ≤ e := by
  unfold widN at h ⊢
  split
  next c =>
    rw [if_pos c] at h
    split
    next d => exact ⟨c, rfl, d⟩
    next d => rw [if_neg d] at h; exact absurd rfl h
  next c => rw [if_neg c] at h; exact absurd rfl h
theorem stL_all {B : List Nat} {e : Nat} : ∀ (k p q : Nat), clrN B e k p = true → q ∈ stL B e k p → ¬ widN B q e = 0 := by
  intro k
  induction k with
  | zero => intro p q _ h; cases h
  | succ k ih =>
    intro p q hc h
    by_cases hp : p < e
    · obtain ⟨c1, c2, c3⟩ := clr_step hc hp
      rw [c3] at h
      rcases List.mem_cons.mp h with h | h
      · rw [h]; exact c1
      · exact ih _ _ c2 h
    · rw [stL, if_neg hp] at h
      cases h
