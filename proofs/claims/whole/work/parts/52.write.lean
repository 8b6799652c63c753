/-! how long the texts are -/
theorem dgN_lt : ∀ (j k n : Nat), n < 10 ^ j → (dgN k n).length ≤ j := by
  intro j
  induction j with
  | zero =>
    intro k n h
    have h0 : n = 0 := by rw [Nat.pow_zero] at h; omega
    cases k with
    | zero => exact Nat.le_refl _
    | succ k => rw [dgN, if_pos h0]; exact Nat.le_refl _
  | succ j ih =>
    intro k n h
    cases k with
    | zero => exact Nat.zero_le _
    | succ k =>
      rw [dgN]
      split
      next => exact Nat.zero_le _
      next =>
        rw [List.length_cons]
        have := ih k (n / 10) (by rw [Nat.pow_succ] at h; omega)
        omega
theorem decN_lt {j n : Nat} (h : n < 10 ^ (j + 1)) : (decN n).length ≤ j + 1 := by
  unfold decN
  rw [List.length_reverse, List.length_cons]
  have := dgN_lt j 18 (n / 10) (by rw [Nat.pow_succ] at h; omega)
  omega
theorem numN_nat {c : Nat} (h : c < 2 ^ 31) : numN (nI c).toInt64 = decN c := by
  have e : ((nI c).toInt64).toInt = (c : Int) := by rw [Int32.toInt_toInt64, nI_toInt (by omega)]
  unfold numN
  rw [e, if_neg, List.nil_append]
  · rfl
  · rw [Int64.lt_iff_toInt_lt, e]
    have : (0 : Int64).toInt = 0 := rfl
    omega
theorem dT_len {B : List Nat} (hB : ∀ j, B.getD j 0 < 256) {f p q : Nat} {T : Nat → Bool} {n : Nat} (hn : n ≤ 120) (hT : ∀ z, T z = true → z < n) : (dT B f T p q).length ≤ 6 := by
  unfold dT
  split
  next c =>
    have h1 := hT _ c.2
    have h2 := cntB_le T (zT B f p q)
    rw [List.length_cons]
    unfold nB
    rw [numN_nat (by omega)]
    have := decN_lt (j := 2) (n := cntB T (zT B f p q)) (by omega)
    omega
  next c =>
    have hb := dsN_b hB (p + headN (B.getD p 0) + 2 * q)
    have ht := d32_toInt hB (p + headN (B.getD p 0) + 2 * q)
    have ht2 : ((d32 B (p + headN (B.getD p 0) + 2 * q)).toInt64).toInt = dsN B (p + headN (B.getD p 0) + 2 * q) := by rw [Int32.toInt_toInt64, ht]
    have z32 : (0 : Int32).toInt = 0 := rfl
    have z64 : (0 : Int64).toInt = 0 := rfl
    have dl := decN_lt (j := 4) (n := (dsN B (p + headN (B.getD p 0) + 2 * q)).natAbs) (by omega)
    unfold numN
    rw [ht2]
    by_cases s : d32 B (p + headN (B.getD p 0) + 2 * q) < 0
    · rw [if_pos s, List.nil_append, List.length_append]
      split <;> simp only [List.length_cons, List.length_nil] <;> omega
    · rw [if_neg s, if_neg]
      · simp only [List.length_append, List.length_cons, List.length_nil]
        omega
      · rw [Int64.lt_iff_toInt_lt, ht2, z64]
        rw [Int32.lt_iff_toInt_lt, ht, z32] at s
        exact s
theorem disT_len {B : List Nat} (hB : ∀ j, B.getD j 0 < 256) {f p : Nat} {T : Nat → Bool} {n : Nat} (hn : n ≤ 120) (hT : ∀ z, T z = true → z < n) : ∀ r k, (disT B f T p r k).length ≤ 7 * r := by
  intro r
  induction r with
  | zero => intro k; exact Nat.le_refl _
  | succ r ih =>
    intro k
    rw [disT, List.length_cons, List.length_append]
    have := ih (k + 1)
    have := dT_len hB (f := f) (p := p) (q := k) hn hT
    omega
theorem wd1_len : ∀ b, b < 256 → (numN ((if 127 < b then (-1 : Int64) else 0) * 256 + (nI b).toInt64)).length ≤ 4 := by decide +kernel
theorem insT_len {B : List Nat} (hB : ∀ j, B.getD j 0 < 256) {f p : Nat} {T : Nat → Bool} {n : Nat} (hn : n ≤ 120) (hT : ∀ z, T z = true → z < n) (h10 : B.getD p 0 ≤ 10) : (insT B f T p).length + 1 + 5 * distN B p ≤ 7 * (headN (B.getD p 0) + 2 * distN B p) := by
  unfold insT
  rw [List.length_append, List.length_append]
  have h1 := disT_len hB (f := f) (p := p) hn hT (distN B p) 0
  have h2 : (opW (B.getD p 0)).length ≤ 4 := by
    have : ∀ x, x < 11 → (opW x).length ≤ 4 := by decide +kernel
    exact this _ (by omega)
  have h3 : (opA B p).length ≤ 5 * (headN (B.getD p 0) - 1) := by
    unfold opA headN
    split
    next c =>
      rw [if_pos (Or.inl c), List.length_cons]
      rw [wdN, wdN]
      have := wd1_len _ (hB (p + 1))
      exact Nat.succ_le_succ this
    next c =>
      split
      next c2 =>
        rw [if_pos (Or.inr c2), List.length_cons]
        have := nB_le _ (hB (p + 1))
        omega
      next c2 => exact Nat.zero_le _
  have h4 := headN_le (B.getD p 0)
  omega
/-- where the distances of the starts go to -/
def hits (B : List Nat) (f e : Nat) : Nat → Nat → List Nat
  | 0, _ => []
  | k + 1, p => if p < e then (List.range (distN B p)).map (zT B f p) ++ hits B f e k (p + widN B p e) else []
theorem hits_mem {B : List Nat} {f e z : Nat} : ∀ (k p x q : Nat), clrN B e k p = true → x ∈ stL B e k p → q < distN B x → zT B f x q = z → z ∈ hits B f e k p := by
  intro k
  induction k with
  | zero => intro p x q _ h; cases h
  | succ k ih =>
    intro p x q hc hx hq hz
    by_cases hp : p < e
    · obtain ⟨c1, c2, c3⟩ := clr_step hc hp
      rw [c3] at hx
      rw [hits, if_pos hp, List.mem_append]
      rcases List.mem_cons.mp hx with h | h
      · subst h
        exact Or.inl (List.mem_map.mpr ⟨q, List.mem_range.mpr hq, hz⟩)
      · exact Or.inr (ih _ _ _ c2 h hq hz)
    · rw [stL, if_neg hp] at hx
      cases hx
theorem hits_len {B : List Nat} {f e : Nat} : ∀ (k p : Nat), clrN B e k p = true → 2 * (hits B f e k p).length ≤ e - p := by
  intro k
  induction k with
  | zero => intro p _; exact Nat.zero_le _
  | succ k ih =>
    intro p hc
    by_cases hp : p < e
    · obtain ⟨c1, c2, c3⟩ := clr_step hc hp
      have := ih _ c2
      have w := wid_le c1
      rw [hits, if_pos hp, List.length_append, List.length_map, List.length_range]
      omega
    · rw [hits, if_neg hp]
      exact Nat.zero_le _
theorem cntB_hits {T : Nat → Bool} : ∀ (n : Nat) (H : List Nat), (∀ z, z < n → T z = true → z ∈ H) → cntB T n ≤ H.length := by
  intro n
  induction n with
  | zero => intro H _; exact Nat.zero_le _
  | succ n ih =>
    intro H h
    rw [cntB]
    cases hT : T n with
    | true =>
      have hm := h n (by omega) hT
      have := ih (H.erase n) (fun z hz hz2 => by
        rw [List.mem_erase_of_ne (by omega)]
        exact h z (by omega) hz2)
      rw [List.length_erase_of_mem hm] at this
      have := List.length_pos_of_mem hm
      rw [if_pos rfl]
      omega
    | false =>
      rw [if_neg Bool.false_ne_true]
      exact ih H (fun z hz => h z (by omega))
theorem lbl_len {T : Nat → Bool} {i : Nat} (hi : i < 120) : (lbl T i).length ≤ 5 * (if T i = true then 1 else 0) := by
  unfold lbl
  have h2 := cntB_le T i
  split
  next c =>
    simp only [List.length_append, List.length_cons, List.length_nil]
    unfold nB
    rw [numN_nat (by omega)]
    have := decN_lt (j := 2) (n := cntB T i) (by omega)
    omega
  next c => exact Nat.zero_le _
theorem pls_len {B : List Nat} (hB : ∀ j, B.getD j 0 < 256) {f n : Nat} {T : Nat → Bool} {L : List Nat} (hn : n ≤ 120) (hT : ∀ z, T z = true → z < n ∧ f + z ∈ L) : ∀ (r i nx k : Nat), i + r = n → i ≤ nx → nx ≤ n → n - nx ≤ k → clrN B (f + n) k (f + nx) = true → (∀ j, i ≤ j → (f + j ∈ L ↔ f + j ∈ stL B (f + n) k (f + nx))) → (plsT B f T L r i).length + 5 * (hits B f (f + n) k (f + nx)).length + 5 * cntB T i ≤ 7 * (n - nx) + 5 * cntB T n := by
  intro r
  induction r with
  | zero =>
    intro i nx k hi h1 h2 hk hc hm
    have hi : i = n := by omega
    subst hi
    have : (hits B f (f + i) k (f + nx)).length = 0 := by
      cases k with
      | zero => rfl
      | succ k => rw [hits, if_neg (by omega)]; rfl
    rw [plsT, List.length_nil, this]
    omega
  | succ r ih =>
    intro i nx k hi h1 h2 hk hc hm
    rw [plsT, List.length_append]
    have ll := lbl_len (T := T) (i := i) (by omega)
    by_cases c : i < nx
    · have nm : ¬ f + i ∈ L := by
        rw [hm i (Nat.le_refl _)]
        intro h
        have := stL_mem _ _ _ h
        omega
      have nt : T i = false := by
        cases hTi : T i with
        | false => rfl
        | true => exact absurd (hT i hTi).2 nm
      have := ih (i + 1) nx k (by omega) (by omega) h2 hk hc (fun j hj => hm j (by omega))
      rw [plT, if_neg nm, List.length_nil]
      have e : cntB T (i + 1) = cntB T i := by rw [cntB, nt, if_neg Bool.false_ne_true, Nat.add_zero]
      rw [e] at this
      omega
    · have hx : nx = i := by omega
      subst hx
      obtain ⟨k, rfl⟩ : ∃ k', k = k' + 1 := ⟨k - 1, by omega⟩
      obtain ⟨c1, c2, c3⟩ := clr_step hc (by omega)
      have w := wid_le c1
      have hh := headN_le (B.getD (f + nx) 0)
      have im : f + nx ∈ L := by
        rw [hm nx (Nat.le_refl _), c3]
        exact List.mem_cons_self
      rw [Nat.add_assoc] at c2 c3
      have := ih (nx + 1) (nx + widN B (f + nx) (f + n)) k (by omega) (by omega) (by omega) (by omega) c2 (fun j hj => by
        rw [hm j (by omega), c3, List.mem_cons]
        constructor
        · rintro (h | h)
          · omega
          · exact h
        · exact Or.inr)
      have il := insT_len hB (f := f) (p := f + nx) hn (fun z hz => (hT z hz).1) w.1
      rw [hits, if_pos (by omega), plT, if_pos im]
      simp only [List.length_append, List.length_map, List.length_range, List.length_singleton]
      rw [cntB] at this
      rw [Nat.add_assoc f]
      omega
theorem bod_len {B : List Nat} (hB : ∀ j, B.getD j 0 < 256) {p : Nat} (hn : cN B p ≤ 120) : (bodT B p).length ≤ 7 * cN B p + 4 := by
  unfold bodT
  by_cases c : clearN B p = true
  · rw [if_pos c]
    have h1 := pls_len hB (f := p + 3) (n := cN B p) (T := cT B p) (L := cL B p) hn cT_ok (cN B p) 0 0 120 (by omega) (by omega) (by omega) (by omega) c (fun j _ => Iff.rfl)
    have h2 := cntB_hits (T := cT B p) (cN B p) (hits B (p + 3) (p + 3 + cN B p) 120 (p + 3 + 0)) (by
      intro z hz hTz
      obtain ⟨_, _, h⟩ := Tb_iff.mp hTz
      rcases h with ⟨x, x1, x2, q, q1, q2⟩ | ⟨q, q1, _⟩
      · exact hits_mem 120 _ x q c x1 q1 (tgI_z q2 (by omega)).1
      · omega)
    omega
  · rw [if_neg c]
    simp only [List.length_append, List.length_singleton, tx20, bytesT_len]
    have : ¬ cN B p = 0 := by
      intro z
      apply c
      show clrN B (p + 3 + cN B p) 120 (p + 3) = true
      rw [z, Nat.add_zero, clrN, if_neg (by omega)]
      exact decide_eq_true rfl
    omega
theorem it_len {B : List Nat} (hB : ∀ j, B.getD j 0 < 256) {part p : Nat} (hk : part ≤ 3) (h : iEnd B part p ≤ B.length) (h120 : B.length ≤ 120) : (itT B part p).length + 1 + 7 * p ≤ 7 * iEnd B part p := by
  obtain ⟨k1, k2, k3, k4, k5, k6⟩ := tx_lens
  have b0 := nB_le _ (hB p)
  have b1 := nB_le _ (hB (p + 1))
  have b2 := nB_le _ (hB (p + 2))
  have cs : part = 0 ∨ part = 1 ∨ part = 2 ∨ part = 3 := by omega
  rcases cs with c | c | c | c <;> subst c
  · show (entT B p).length + 1 + 7 * p ≤ 7 * eEnd B p
    unfold entT eEnd
    have n1 := numN_le (wdN B (p + 1) 4)
    have n2 := numN_le (wdN B (p + 1) 8)
    have n3 := nameT_len (B := B) (p := p + 2) (n := B.getD (p + 1) 0)
    split
    next => simp only [List.length_append, List.length_singleton]; omega
    next =>
      split
      next => simp only [List.length_append, List.length_singleton]; omega
      next =>
        split <;> simp only [List.length_append, List.length_singleton] <;> omega
  · show (fldT B p).length + 1 + 7 * p ≤ 7 * (p + 2)
    unfold fldT
    simp only [List.length_append, List.length_singleton]
    omega
  · have h : p + 3 + cN B p ≤ B.length := h
    show (codT0 B p).length + 1 + 7 * p ≤ 7 * (p + 3 + cN B p)
    have := bod_len hB (p := p) (by omega)
    unfold codT0 codH
    simp only [List.length_append, List.length_singleton, tx18, tx19, tx21]
    omega
  · show (attT B p).length + 1 + 7 * p ≤ 7 * (p + 2 + B.getD (p + 1) 0)
    unfold attT
    simp only [List.length_append, List.length_singleton, bytesT_len]
    omega
