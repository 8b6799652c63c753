/-! the words of a text -/
abbrev gapC (c : Nat) : Prop := c = 32 ∨ c = 10
/-- skips gaps -/
def skG (S : List Nat) : Nat → Nat → Nat
  | 0, p => p
  | k + 1, p => if gapC (S.getD p 0) then skG S k (p + 1) else p
/-- skips a word's letters -/
def skW (S : List Nat) : Nat → Nat → Nat
  | 0, p => p
  | k + 1, p => if gapC (S.getD p 0) then p else skW S k (p + 1)
def wF (S : List Nat) (p : Nat) : Nat := skG S (S.length - p) p
def wT (S : List Nat) (p : Nat) : Nat := skW S (S.length - wF S p) (wF S p)
theorem skG_b {S : List Nat} : ∀ (k p : Nat), p ≤ skG S k p ∧ skG S k p ≤ p + k ∧ (skG S k p < p + k → ¬ gapC (S.getD (skG S k p) 0)) := by
  intro k
  induction k with
  | zero => intro p; rw [skG]; omega
  | succ k ih =>
    intro p
    rw [skG]
    by_cases c : gapC (S.getD p 0)
    · rw [if_pos c]
      have := ih (p + 1)
      refine ⟨by omega, by omega, fun h => this.2.2 (by omega)⟩
    · rw [if_neg c]
      exact ⟨by omega, by omega, fun _ => c⟩
theorem skW_b {S : List Nat} : ∀ (k p : Nat), p ≤ skW S k p ∧ skW S k p ≤ p + k ∧ ∀ j, p ≤ j → j < skW S k p → ¬ gapC (S.getD j 0) := by
  intro k
  induction k with
  | zero => intro p; rw [skW]; exact ⟨by omega, by omega, fun j h1 h2 => by omega⟩
  | succ k ih =>
    intro p
    rw [skW]
    by_cases c : gapC (S.getD p 0)
    · rw [if_pos c]
      exact ⟨by omega, by omega, fun j h1 h2 => by omega⟩
    · rw [if_neg c]
      have := ih (p + 1)
      refine ⟨by omega, by omega, fun j h1 h2 => ?_⟩
      by_cases e : j = p
      · rw [e]; exact c
      · exact this.2.2 j (by omega) h2
/-- the word behind place p: where it begins and ends -/
theorem w_b {S : List Nat} {p : Nat} (hp : p ≤ S.length) : p ≤ wF S p ∧ wF S p ≤ wT S p ∧ wT S p ≤ S.length ∧ (wF S p < S.length → wF S p < wT S p) ∧ ∀ j, wF S p ≤ j → j < wT S p → ¬ gapC (S.getD j 0) := by
  have h1 := skG_b (S := S) (S.length - p) p
  have h2 := skW_b (S := S) (S.length - wF S p) (wF S p)
  have e1 : wF S p = skG S (S.length - p) p := rfl
  have e2 : wT S p = skW S (S.length - wF S p) (wF S p) := rfl
  refine ⟨by omega, by omega, by omega, fun h => ?_, ?_⟩
  · have hg : ¬ gapC (S.getD (wF S p) 0) := by rw [e1]; exact h1.2.2 (by omega)
    rw [e2]
    obtain ⟨k, hk⟩ : ∃ k, S.length - wF S p = k + 1 := ⟨S.length - wF S p - 1, by omega⟩
    rw [hk, skW, if_neg hg]
    have := (skW_b (S := S) k (wF S p + 1)).1
    omega
  · rw [e2]; exact h2.2.2
/-! numerals -/
def nuV (S : List Nat) : Nat → Nat → Nat → Option Nat
  | 0, _, N => some N
  | k + 1, i, N => if 48 ≤ S.getD i 0 ∧ S.getD i 0 ≤ 57 then nuV S k (i + 1) (10 * N + (S.getD i 0 - 48)) else none
/-- what the letters from a to t say, if they are a number without a needless 0 -/
def numW (S : List Nat) (a t : Nat) : Option Nat := if a < t ∧ (¬ S.getD a 0 = 48 ∨ a + 1 = t) then nuV S (t - a) a 0 else none
def sgS (S : List Nat) (f : Nat) : Nat := if S.getD f 0 = 43 ∨ S.getD f 0 = 45 ∨ S.getD f 0 = 64 then S.getD f 0 else 0
def nuA (S : List Nat) (f : Nat) : Nat := if sgS S f = 0 then f else f + 1
def ng (N : Nat) : Int64 := Int64.ofInt (-(N : Int))
def nOK (N : Nat) (bl : Int32) (ls : Int64) : Prop := (N ≤ 2 ^ 63 → bl = 0 ∧ ls = ng N) ∧ (¬ N ≤ 2 ^ 63 → bl = 1)
def nRes (o : Option Nat) (hn bl : Int32) (ls : Int64) : Prop := (o = none → hn = 0) ∧ ∀ N, o = some N → hn = 1 ∧ nOK N bl ls
theorem ng_toInt {N : Nat} (h : N ≤ 2 ^ 63) : (ng N).toInt = -(N : Int) := by
  unfold ng
  rw [Int64.toInt_ofInt]
  have hs : Int64.size = 18446744073709551616 := rfl
  rw [hs, Int.bmod_eq_of_le (by omega) (by omega)]
theorem ng_step {N d : Nat} (h : 10 * N + d ≤ 2 ^ 63) (hd : d ≤ 9) : ng N * 10 - (nI d).toInt64 = ng (10 * N + d) := by
  apply Int64.toInt_inj.mp
  have e10 : (10 : Int64).toInt = 10 := rfl
  have ed : ((nI d).toInt64).toInt = (d : Int) := by rw [Int32.toInt_toInt64, nI_toInt (by omega)]
  rw [ng_toInt h, Int64.toInt_sub, Int64.toInt_mul, ng_toInt (by omega), e10, ed]
  rw [Int.bmod_eq_of_le (n := -(N : Int) * 10) (by omega) (by omega), Int.bmod_eq_of_le (by omega) (by omega)]
  omega
theorem ng_beyond {N d : Nat} (h : N ≤ 2 ^ 63) (hd : d ≤ 9) : (0 ≤ lg_cmp (ng N) ((-9223372036854775808 + (nI d).toInt64) / 10)) ↔ 10 * N + d ≤ 2 ^ 63 := by
  have e10 : (10 : Int64).toInt = 10 := rfl
  have em : (-9223372036854775808 : Int64).toInt = -9223372036854775808 := rfl
  have ed : ((nI d).toInt64).toInt = (d : Int) := by rw [Int32.toInt_toInt64, nI_toInt (by omega)]
  have es : (-9223372036854775808 + (nI d).toInt64).toInt = -9223372036854775808 + (d : Int) := by
    rw [Int64.toInt_add, em, ed, Int.bmod_eq_of_le (by omega) (by omega)]
  rw [lg_cmp_ge, Int64.le_iff_toInt_le, Jvm.Kit.i64_div (by rw [e10]; omega), es, e10, ng_toInt h]
  have eq : (-9223372036854775808 + (d : Int)) = -(9223372036854775808 - (d : Int)) := by omega
  rw [eq, Int.neg_tdiv, Int.tdiv_eq_ediv_of_nonneg (by omega)]
  omega
/-! the class's words -/
def wo (L : Nat) (n f t sg hn bl : Int32) (ls v : Int64) : ex_C := .inl (7, [.ref L, .int n, .int f, .int t, .int sg, .int hn, .int bl, .long ls, .long v])
section WO
variable {w : ex_W} {L : Nat} {n f t sg hn bl x : Int32} {ls v y : Int64} {c : ex_C}
theorem wp2 (h8 : w[8]? = some (wo L n f t sg hn bl ls v)) : ex_pf w 8 7 2 (.int x) = some (w.set 8 (wo L n x t sg hn bl ls v)) := ex_pf_i h8 (Nat.le_of_ble_eq_true rfl)
theorem wq2 (h8 : w[8]? = some c) : ex_pf (w.set 8 (wo L n f t sg hn bl ls v)) 8 7 2 (.int x) = some (w.set 8 (wo L n x t sg hn bl ls v)) := by
  rw [wp2 (ex_set_s h8), List.set_set]
theorem wp3 (h8 : w[8]? = some (wo L n f t sg hn bl ls v)) : ex_pf w 8 7 3 (.int x) = some (w.set 8 (wo L n f x sg hn bl ls v)) := ex_pf_i h8 (Nat.le_of_ble_eq_true rfl)
theorem wq3 (h8 : w[8]? = some c) : ex_pf (w.set 8 (wo L n f t sg hn bl ls v)) 8 7 3 (.int x) = some (w.set 8 (wo L n f x sg hn bl ls v)) := by
  rw [wp3 (ex_set_s h8), List.set_set]
theorem wp4 (h8 : w[8]? = some (wo L n f t sg hn bl ls v)) : ex_pf w 8 7 4 (.int x) = some (w.set 8 (wo L n f t x hn bl ls v)) := ex_pf_i h8 (Nat.le_of_ble_eq_true rfl)
theorem wq4 (h8 : w[8]? = some c) : ex_pf (w.set 8 (wo L n f t sg hn bl ls v)) 8 7 4 (.int x) = some (w.set 8 (wo L n f t x hn bl ls v)) := by
  rw [wp4 (ex_set_s h8), List.set_set]
theorem wp5 (h8 : w[8]? = some (wo L n f t sg hn bl ls v)) : ex_pf w 8 7 5 (.int x) = some (w.set 8 (wo L n f t sg x bl ls v)) := ex_pf_i h8 (Nat.le_of_ble_eq_true rfl)
theorem wq5 (h8 : w[8]? = some c) : ex_pf (w.set 8 (wo L n f t sg hn bl ls v)) 8 7 5 (.int x) = some (w.set 8 (wo L n f t sg x bl ls v)) := by
  rw [wp5 (ex_set_s h8), List.set_set]
theorem wp6 (h8 : w[8]? = some (wo L n f t sg hn bl ls v)) : ex_pf w 8 7 6 (.int x) = some (w.set 8 (wo L n f t sg hn x ls v)) := ex_pf_i h8 (Nat.le_of_ble_eq_true rfl)
theorem wq6 (h8 : w[8]? = some c) : ex_pf (w.set 8 (wo L n f t sg hn bl ls v)) 8 7 6 (.int x) = some (w.set 8 (wo L n f t sg hn x ls v)) := by
  rw [wp6 (ex_set_s h8), List.set_set]
theorem wp7 (h8 : w[8]? = some (wo L n f t sg hn bl ls v)) : ex_pf w 8 7 7 (.long y) = some (w.set 8 (wo L n f t sg hn bl y v)) := ex_pf_i h8 (Nat.le_of_ble_eq_true rfl)
theorem wq7 (h8 : w[8]? = some c) : ex_pf (w.set 8 (wo L n f t sg hn bl ls v)) 8 7 7 (.long y) = some (w.set 8 (wo L n f t sg hn bl y v)) := by
  rw [wp7 (ex_set_s h8), List.set_set]
theorem wp8 (h8 : w[8]? = some (wo L n f t sg hn bl ls v)) : ex_pf w 8 7 8 (.long y) = some (w.set 8 (wo L n f t sg hn bl ls y)) := ex_pf_i h8 (Nat.le_of_ble_eq_true rfl)
theorem wq8 (h8 : w[8]? = some c) : ex_pf (w.set 8 (wo L n f t sg hn bl ls v)) 8 7 8 (.long y) = some (w.set 8 (wo L n f t sg hn bl ls y)) := by
  rw [wp8 (ex_set_s h8), List.set_set]
theorem wq_s (h8 : w[8]? = some c) : (w.set 8 (wo L n f t sg hn bl ls v))[8]? = some (wo L n f t sg hn bl ls v) := ex_set_s h8
end WO
/-- the letters lie in array L -/
def isLt (w : ex_W) (L : Nat) (S : List Nat) : Prop := ∃ xs : List Int32, w[L]? = some (.inr (0, xs)) ∧ holds xs S ∧ xs.length ≤ 1000 ∧ (∀ j, S.getD j 0 < 256)
theorem lt_al {w : ex_W} {L i : Nat} {S : List Nat} (h : isLt w L S) (hi : i < S.length) : ex_al w L 0 (nI i) = some (nI (S.getD i 0)) := by
  obtain ⟨xs, h1, h2, h3, _⟩ := h
  have := h2.1
  rw [ex_al_i h1 (by omega) (by omega), h2.2 i hi]
theorem lt_len {w : ex_W} {L : Nat} {S : List Nat} (h : isLt w L S) : S.length ≤ 1000 := by
  obtain ⟨xs, h1, h2, h3, _⟩ := h
  have := h2.1
  omega
theorem lt_b {w : ex_W} {L : Nat} {S : List Nat} (h : isLt w L S) : ∀ j, S.getD j 0 < 256 := by
  obtain ⟨xs, h1, h2, h3, h4⟩ := h
  exact h4
theorem lt_o {w w2 : ex_W} {L : Nat} {S : List Nat} (h : isLt w L S) (e : w2[L]? = w[L]?) : isLt w2 L S := by
  obtain ⟨xs, h1, h2⟩ := h
  exact ⟨xs, e.trans h1, h2⟩
section WORDS
variable {X : Option (List Int32)} {w : ex_W} {L : Nat} {S : List Nat} {f t : Nat} {sg hn bl : Int32} {ls v : Int64}
theorem w_isGap {c : Nat} (hc : c < 256) : (gapC c → ex_call X 87 [.int (nI c)] w = some (some (.int 1), w)) ∧ (¬ gapC c → ex_call X 87 [.int (nI c)] w = some (some (.int 0), w)) := by
  constructor
  · intro h
    show ex_go X 87 0 [(0, .int (nI c))] [] w = _
    rcases h with h | h <;> subst h <;> simp (disch := first | assumption | decide) only [s87_0, s87_1, s87_3, s87_6, s87_7, s87_9, s87_12, s87_13, s87_16, s87_17, if_pos, if_neg]
  · intro h
    have e1 : ¬ nI c = 32 := fun z => h (Or.inl ((nI_eq (b := 32) (by omega) (by decide)).mp z))
    have e2 : ¬ nI c = 10 := fun z => h (Or.inr ((nI_eq (b := 10) (by omega) (by decide)).mp z))
    show ex_go X 87 0 [(0, .int (nI c))] [] w = _
    simp (disch := first | assumption | decide) only [s87_0, s87_1, s87_3, s87_6, s87_7, s87_9, s87_12, s87_13, s87_16, s87_17, if_neg e1, if_pos e2]
theorem w_loopG {f0 t0 : Int32} (hL : L < 1000) (h8 : w[8]? = some (wo L (nI S.length) f0 t0 sg hn bl ls v)) (T : isLt w L S) : ∀ (k i : Nat), i + k = S.length → ex_go X 86 5 [(0, .ref 8), (1, .int (nI i))] [] w = ex_go X 86 31 [(0, .ref 8), (1, .int (nI (skG S k i)))] [] w := by
  have hl := lt_len T
  intro k
  induction k with
  | zero =>
    intro i hi
    have e : nI S.length ≤ nI i := nI_le (by omega) (by omega)
    rw [skG]
    simp (disch := first | assumption | decide) only [s86_5, s86_6, s86_7, s86_10, s86_13, s86_14, s86_17, s86_18, s86_19, s86_22, s86_25, s86_28, ex_gf_i h8, List.getElem?_cons_zero, List.getElem?_cons_succ, Option.bind_some, Option.toList_some, Option.toList_none, List.cons_append, List.nil_append, not_true_eq_false, if_false, if_true, if_pos e]
  | succ k ih =>
    intro i hi
    have e : ¬ nI S.length ≤ nI i := nI_ge (by omega) (by omega)
    have al := lt_al T (i := i) (by omega)
    have ig := w_isGap (X := X) (w := w) (c := S.getD i 0) (lt_b T i)
    have n1 : ¬ (1 : Int32) = 0 := by decide
    rw [skG]
    by_cases c : gapC (S.getD i 0)
    · rw [if_pos c, ← ih (i + 1) (by omega), s86_5]
      simp (disch := first | assumption | decide) only [s86_6, s86_7, s86_10, s86_13, s86_14, s86_17, s86_18, s86_19, s86_22, s86_25, s86_28, ex_gf_i h8, List.getElem?_cons_zero, List.getElem?_cons_succ, Option.bind_some, Option.toList_some, Option.toList_none, List.cons_append, List.nil_append, not_true_eq_false, if_false, if_true, if_neg e, al, ig.1 c, if_neg n1, nI_1]
    · rw [if_neg c]
      simp (disch := first | assumption | decide) only [s86_5, s86_6, s86_7, s86_10, s86_13, s86_14, s86_17, s86_18, s86_19, s86_22, s86_25, s86_28, ex_gf_i h8, List.getElem?_cons_zero, List.getElem?_cons_succ, Option.bind_some, Option.toList_some, Option.toList_none, List.cons_append, List.nil_append, not_true_eq_false, if_false, if_true, if_neg e, al, ig.2 c, if_true]
theorem w_loopW {f0 t0 : Int32} (hL : L < 1000) (h8 : w[8]? = some (wo L (nI S.length) f0 t0 sg hn bl ls v)) (T : isLt w L S) : ∀ (k i : Nat), i + k = S.length → ex_go X 86 36 [(0, .ref 8), (1, .int (nI i))] [] w = ex_go X 86 62 [(0, .ref 8), (1, .int (nI (skW S k i)))] [] w := by
  have hl := lt_len T
  intro k
  induction k with
  | zero =>
    intro i hi
    have e : nI S.length ≤ nI i := nI_le (by omega) (by omega)
    rw [skW]
    simp (disch := first | assumption | decide) only [s86_36, s86_37, s86_38, s86_41, s86_44, s86_45, s86_48, s86_49, s86_50, s86_53, s86_56, s86_59, ex_gf_i h8, List.getElem?_cons_zero, List.getElem?_cons_succ, Option.bind_some, Option.toList_some, Option.toList_none, List.cons_append, List.nil_append, not_true_eq_false, if_false, if_true, if_pos e]
  | succ k ih =>
    intro i hi
    have e : ¬ nI S.length ≤ nI i := nI_ge (by omega) (by omega)
    have al := lt_al T (i := i) (by omega)
    have ig := w_isGap (X := X) (w := w) (c := S.getD i 0) (lt_b T i)
    have n1 : ¬ (1 : Int32) = 0 := by decide
    have n0 : ¬ ¬ (0 : Int32) = 0 := by decide
    rw [skW]
    by_cases c : gapC (S.getD i 0)
    · rw [if_pos c]
      simp (disch := first | assumption | decide) only [s86_36, s86_37, s86_38, s86_41, s86_44, s86_45, s86_48, s86_49, s86_50, s86_53, s86_56, s86_59, ex_gf_i h8, List.getElem?_cons_zero, List.getElem?_cons_succ, Option.bind_some, Option.toList_some, Option.toList_none, List.cons_append, List.nil_append, not_true_eq_false, if_false, if_true, if_neg e, al, ig.1 c, if_pos n1]
    · rw [if_neg c, ← ih (i + 1) (by omega), s86_36]
      simp (disch := first | assumption | decide) only [s86_37, s86_38, s86_41, s86_44, s86_45, s86_48, s86_49, s86_50, s86_53, s86_56, s86_59, ex_gf_i h8, List.getElem?_cons_zero, List.getElem?_cons_succ, Option.bind_some, Option.toList_some, Option.toList_none, List.cons_append, List.nil_append, not_true_eq_false, if_false, if_true, if_neg e, al, ig.2 c, if_neg n0, nI_1]
theorem w_numLoop (hL : L < 1000) (hne : L ≠ 8) : ∀ (k i N : Nat) (bl : Int32) (ls : Int64) (w : ex_W), i + k = t → t ≤ S.length → w[8]? = some (wo L (nI S.length) (nI f) (nI t) sg 1 bl ls v) → isLt w L S → nOK N bl ls → ∃ hn2 bl2 ls2, ex_go X 88 123 [(0, .ref 8), (3, .int (nI i))] [] w = some (none, w.set 8 (wo L (nI S.length) (nI f) (nI t) sg hn2 bl2 ls2 v)) ∧ nRes (nuV S k i N) hn2 bl2 ls2 := by
  intro k
  induction k with
  | zero =>
    intro i N bl ls w hi ht h8 T hN
    have hl := lt_len T
    have e : nI t ≤ nI i := nI_le (by omega) (by omega)
    refine ⟨1, bl, ls, ?_, ?_⟩
    · rw [set_id h8]
      simp (disch := first | assumption | decide) only [s88_123, s88_124, s88_125, s88_128, s88_227, ex_gf_i h8, List.getElem?_cons_zero, List.getElem?_cons_succ, Option.bind_some, Option.toList_some, Option.toList_none, List.cons_append, List.nil_append, not_true_eq_false, if_false, if_true, if_pos e]
    · rw [nuV]
      exact ⟨fun z => (by cases z), fun M z => (by cases z; exact ⟨rfl, hN⟩)⟩
  | succ k ih =>
    intro i N bl ls w hi ht h8 T hN
    have hl := lt_len T
    have hb := lt_b T i
    have e : ¬ nI t ≤ nI i := nI_ge (by omega) (by omega)
    have al := lt_al T (i := i) (by omega)
    have n1 : ¬ (1 : Int32) = 0 := by decide
    have z10 : ¬ (10 : Int64) = 0 := by decide
    have s0 : (0 : Int32) = 0 := rfl
    -- up to the digit
    have hd : ex_go X 88 123 [(0, .ref 8), (3, .int (nI i))] [] w = ex_go X 88 149 [(0, .ref 8), (3, .int (nI i)), (4, .int (nI (S.getD i 0) - 48))] [] w := by
      simp (disch := first | assumption | decide) only [s88_123, s88_124, s88_125, s88_128, s88_131, s88_132, s88_135, s88_138, s88_139, s88_142, s88_143, s88_144, s88_146, s88_147, ex_gf_i h8, List.getElem?_cons_zero, List.getElem?_cons_succ, Option.bind_some, Option.toList_some, Option.toList_none, List.cons_append, List.nil_append, not_true_eq_false, if_false, if_true, if_neg e, if_neg n1, al]
    by_cases c : 48 ≤ S.getD i 0 ∧ S.getD i 0 ≤ 57
    · have ed : nI (S.getD i 0) - 48 = nI (S.getD i 0 - 48) := pk_sub (b := 48) c.1
      have d0 : ¬ nI (S.getD i 0 - 48) < 0 := nI_pos (by omega)
      have d9 : ¬ 9 < nI (S.getD i 0 - 48) := nI_nlt (a := 9) (b := S.getD i 0 - 48) (by omega) (by decide)
      rw [nuV, if_pos c, hd, ed]
      have s8 : (w.set 8 (wo L (nI S.length) (nI f) (nI t) sg 1 bl ls v))[8]? = some (wo L (nI S.length) (nI f) (nI t) sg 1 bl ls v) := ex_set_s h8
      have lo : ∀ c : ex_C, isLt (w.set 8 c) L S := fun c => lt_o T (by rw [List.getElem?_set_ne (Ne.symm hne)])
      by_cases b : N ≤ 2 ^ 63
      · obtain ⟨b1, b2⟩ := hN.1 b
        subst b1
        subst b2
        have by0 := ng_beyond (N := N) (d := S.getD i 0 - 48) b (by omega)
        by_cases b3 : 10 * N + (S.getD i 0 - 48) ≤ 2 ^ 63
        · have g := by0.mpr b3
          obtain ⟨hn2, bl2, ls2, a1, a2⟩ := ih (i + 1) (10 * N + (S.getD i 0 - 48)) 0 (ng (10 * N + (S.getD i 0 - 48))) (w.set 8 (wo L (nI S.length) (nI f) (nI t) sg 1 0 (ng (10 * N + (S.getD i 0 - 48))) v)) (by omega) ht (ex_set_s h8) (lo _) ⟨fun _ => ⟨rfl, rfl⟩, fun z => absurd b3 z⟩
          rw [List.set_set] at a1
          refine ⟨hn2, bl2, ls2, ?_, a2⟩
          rw [← a1]
          simp (disch := first | assumption | decide) only [s88_149, s88_150, s88_152, s88_155, s88_157, s88_159, s88_162, s88_163, s88_166, s88_167, s88_170, s88_171, s88_172, s88_175, s88_178, s88_179, s88_182, s88_185, s88_187, s88_188, s88_189, s88_192, s88_193, s88_194, s88_197, s88_198, s88_201, s88_202, s88_205, s88_206, s88_207, s88_210, s88_213, s88_214, s88_216, s88_217, s88_218, s88_221, s88_224, if_neg d0, if_neg d9, wp5 h8, ex_gf_i s8, List.getElem?_cons_zero, List.getElem?_cons_succ, Option.bind_some, Option.toList_some, Option.toList_none, List.cons_append, List.nil_append, not_true_eq_false, if_false, if_true, if_pos g, wq6 h8, ng_step b3 (show S.getD i 0 - 48 ≤ 9 by omega), wq7 h8, nI_1]
        · have g : ¬ 0 ≤ lg_cmp (ng N) ((-9223372036854775808 + (nI (S.getD i 0 - 48)).toInt64) / 10) := fun z => b3 (by0.mp z)
          have s86 : (w.set 8 (wo L (nI S.length) (nI f) (nI t) sg 1 1 (ng N) v))[8]? = some (wo L (nI S.length) (nI f) (nI t) sg 1 1 (ng N) v) := ex_set_s h8
          obtain ⟨hn2, bl2, ls2, a1, a2⟩ := ih (i + 1) (10 * N + (S.getD i 0 - 48)) 1 (ng N * 10 - (nI (S.getD i 0 - 48)).toInt64) (w.set 8 (wo L (nI S.length) (nI f) (nI t) sg 1 1 (ng N * 10 - (nI (S.getD i 0 - 48)).toInt64) v)) (by omega) ht (ex_set_s h8) (lo _) ⟨fun z => absurd z b3, fun _ => rfl⟩
          rw [List.set_set] at a1
          refine ⟨hn2, bl2, ls2, ?_, a2⟩
          rw [← a1]
          simp (disch := first | assumption | decide) only [s88_149, s88_150, s88_152, s88_155, s88_157, s88_159, s88_162, s88_163, s88_166, s88_167, s88_170, s88_171, s88_172, s88_175, s88_178, s88_179, s88_182, s88_185, s88_187, s88_188, s88_189, s88_192, s88_193, s88_194, s88_197, s88_198, s88_201, s88_202, s88_205, s88_206, s88_207, s88_210, s88_213, s88_214, s88_216, s88_217, s88_218, s88_221, s88_224, if_neg d0, if_neg d9, wp5 h8, ex_gf_i s8, List.getElem?_cons_zero, List.getElem?_cons_succ, Option.bind_some, Option.toList_some, Option.toList_none, List.cons_append, List.nil_append, not_true_eq_false, if_false, if_true, if_neg g, wq6 h8, ex_gf_i s86, wq7 h8, nI_1]
      · have b1 := hN.2 b
        subst b1
        obtain ⟨hn2, bl2, ls2, a1, a2⟩ := ih (i + 1) (10 * N + (S.getD i 0 - 48)) 1 (ls * 10 - (nI (S.getD i 0 - 48)).toInt64) (w.set 8 (wo L (nI S.length) (nI f) (nI t) sg 1 1 (ls * 10 - (nI (S.getD i 0 - 48)).toInt64) v)) (by omega) ht (ex_set_s h8) (lo _) ⟨fun z => by omega, fun _ => rfl⟩
        rw [List.set_set] at a1
        refine ⟨hn2, bl2, ls2, ?_, a2⟩
        rw [← a1]
        simp (disch := first | assumption | decide) only [s88_149, s88_150, s88_152, s88_155, s88_157, s88_159, s88_162, s88_163, s88_166, s88_167, s88_170, s88_171, s88_172, s88_175, s88_178, s88_179, s88_182, s88_185, s88_187, s88_188, s88_189, s88_192, s88_193, s88_194, s88_197, s88_198, s88_201, s88_202, s88_205, s88_206, s88_207, s88_210, s88_213, s88_214, s88_216, s88_217, s88_218, s88_221, s88_224, if_neg d0, if_neg d9, wp5 h8, ex_gf_i s8, List.getElem?_cons_zero, List.getElem?_cons_succ, Option.bind_some, Option.toList_some, Option.toList_none, List.cons_append, List.nil_append, not_true_eq_false, if_false, if_true, if_pos n1, wq6 h8, wq7 h8, nI_1]
    · rw [nuV, if_neg c, hd]
      -- no digit: the loop ends
      have bad : ex_go X 88 149 [(0, .ref 8), (3, .int (nI i)), (4, .int (nI (S.getD i 0) - 48))] [] w = ex_go X 88 167 [(0, .ref 8), (3, .int (nI i)), (4, .int (nI (S.getD i 0) - 48))] [.int 0, .ref 8] w := by
        by_cases c1 : 48 ≤ S.getD i 0
        · have ed : nI (S.getD i 0) - 48 = nI (S.getD i 0 - 48) := pk_sub (b := 48) c1
          have d0 : ¬ nI (S.getD i 0 - 48) < 0 := nI_pos (by omega)
          have d9 : 9 < nI (S.getD i 0 - 48) := nI_lt (a := 9) (by omega) (by omega)
          rw [ed]
          simp (disch := first | assumption | decide) only [s88_149, s88_150, s88_152, s88_155, s88_157, s88_159, s88_162, s88_163, s88_166, if_neg d0, if_pos d9]
        · have d0 : nI (S.getD i 0) - 48 < 0 := pk_sneg (b := 48) (by decide) (by omega)
          simp (disch := first | assumption | decide) only [s88_149, s88_150, s88_152, s88_155, s88_157, s88_159, s88_162, s88_163, s88_166, if_pos d0]
      rw [bad]
      generalize nI (S.getD i 0) - 48 = d
      have s8 : (w.set 8 (wo L (nI S.length) (nI f) (nI t) sg 0 bl ls v))[8]? = some (wo L (nI S.length) (nI f) (nI t) sg 0 bl ls v) := ex_set_s h8
      have fin : ∀ (bl2 : Int32), (bl2 = 0 ∨ bl2 = 1) → ex_go X 88 202 [(0, .ref 8), (3, .int (nI i)), (4, .int d)] [.int bl2, .ref 8] (w.set 8 (wo L (nI S.length) (nI f) (nI t) sg 0 bl ls v)) = some (none, w.set 8 (wo L (nI S.length) (nI f) (nI t) sg 0 bl2 (ls * 10 - d.toInt64) v)) := by
        intro bl2 hbl2
        have s86 : (w.set 8 (wo L (nI S.length) (nI f) (nI t) sg 0 bl2 ls v))[8]? = some (wo L (nI S.length) (nI f) (nI t) sg 0 bl2 ls v) := ex_set_s h8
        have s87 : (w.set 8 (wo L (nI S.length) (nI f) (nI t) sg 0 bl2 (ls * 10 - d.toInt64) v))[8]? = some (wo L (nI S.length) (nI f) (nI t) sg 0 bl2 (ls * 10 - d.toInt64) v) := ex_set_s h8
        simp (disch := first | assumption | decide) only [s88_202, s88_205, s88_206, s88_207, s88_210, s88_213, s88_214, s88_216, s88_217, s88_218, s88_221, s88_224, wq6 h8, List.getElem?_cons_zero, List.getElem?_cons_succ, Option.bind_some, Option.toList_some, Option.toList_none, List.cons_append, List.nil_append, not_true_eq_false, if_false, if_true, ex_gf_i s86, wq7 h8, nI_1]
        by_cases e2 : nI t ≤ nI (i + 1)
        · simp (disch := first | assumption | decide) only [s88_123, s88_124, s88_125, s88_128, s88_131, s88_132, s88_135, s88_227, ex_gf_i s87, List.getElem?_cons_zero, List.getElem?_cons_succ, Option.bind_some, Option.toList_some, Option.toList_none, List.cons_append, List.nil_append, not_true_eq_false, if_false, if_true, if_pos e2]
        · simp (disch := first | assumption | decide) only [s88_123, s88_124, s88_125, s88_128, s88_131, s88_132, s88_135, s88_227, ex_gf_i s87, List.getElem?_cons_zero, List.getElem?_cons_succ, Option.bind_some, Option.toList_some, Option.toList_none, List.cons_append, List.nil_append, not_true_eq_false, if_false, if_true, if_neg e2]
      by_cases b : bl = 0
      · subst b
        by_cases g : 0 ≤ lg_cmp ls ((-9223372036854775808 + d.toInt64) / 10)
        · refine ⟨0, 0, ls * 10 - d.toInt64, ?_, ⟨fun _ => rfl, fun N z => (by cases z)⟩⟩
          rw [← fin 0 (Or.inl rfl)]
          simp (disch := first | assumption | decide) only [s88_167, s88_170, s88_171, s88_172, s88_175, s88_178, s88_179, s88_182, s88_185, s88_187, s88_188, s88_189, s88_192, s88_193, s88_194, s88_197, s88_198, s88_201, wp5 h8, List.getElem?_cons_zero, List.getElem?_cons_succ, Option.bind_some, Option.toList_some, Option.toList_none, List.cons_append, List.nil_append, not_true_eq_false, if_false, if_true, ex_gf_i s8, if_pos g]
        · refine ⟨0, 1, ls * 10 - d.toInt64, ?_, ⟨fun _ => rfl, fun N z => (by cases z)⟩⟩
          rw [← fin 1 (Or.inr rfl)]
          simp (disch := first | assumption | decide) only [s88_167, s88_170, s88_171, s88_172, s88_175, s88_178, s88_179, s88_182, s88_185, s88_187, s88_188, s88_189, s88_192, s88_193, s88_194, s88_197, s88_198, s88_201, wp5 h8, List.getElem?_cons_zero, List.getElem?_cons_succ, Option.bind_some, Option.toList_some, Option.toList_none, List.cons_append, List.nil_append, not_true_eq_false, if_false, if_true, ex_gf_i s8, if_neg g]
      · refine ⟨0, 1, ls * 10 - d.toInt64, ?_, ⟨fun _ => rfl, fun N z => (by cases z)⟩⟩
        rw [← fin 1 (Or.inr rfl)]
        simp (disch := first | assumption | decide) only [s88_167, s88_170, s88_171, s88_172, s88_175, s88_178, s88_179, s88_182, s88_185, s88_187, s88_188, s88_189, s88_192, s88_193, s88_194, s88_197, s88_198, s88_201, wp5 h8, List.getElem?_cons_zero, List.getElem?_cons_succ, Option.bind_some, Option.toList_some, Option.toList_none, List.cons_append, List.nil_append, not_true_eq_false, if_false, if_true, ex_gf_i s8, if_pos b]
end WORDS
