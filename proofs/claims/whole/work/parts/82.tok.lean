/-! the told text's words -/
theorem tok_tx : ∀ j, j < 33 → 11 ≤ j → tokOK (txN j) := by
  intro j hj h11
  have h1 : ∀ j, j < 33 → 11 ≤ j → ¬ txN j = [] := by decide +kernel
  have h2 : ∀ j, j < 33 → 11 ≤ j → ∀ c, c ∈ txN j → 33 ≤ c ∧ c ≤ 126 := by decide +kernel
  have h3 : ∀ j, j < 33 → 11 ≤ j → ¬ (txN j).getD 0 0 = 64 := by decide +kernel
  refine ⟨h1 j hj h11, h2 j hj h11, fun r e => ?_⟩
  exfalso
  apply h3 j hj h11
  rw [e]
  rfl
/-- letters, none of them an at sign at the begin -/
theorem tok_of {t : List Nat} (h1 : ¬ t = []) (h2 : ∀ c, c ∈ t → 33 ≤ c ∧ c ≤ 126) (h3 : ¬ t.getD 0 0 = 64) : tokOK t := ⟨h1, h2, fun r e => absurd (by rw [e]; rfl) h3⟩
theorem dgN_ch : ∀ (k n c : Nat), c ∈ dgN k n → 48 ≤ c ∧ c ≤ 57 := by
  intro k
  induction k with
  | zero => intro n c h; cases h
  | succ k ih =>
    intro n c h
    rw [dgN] at h
    split at h
    · cases h
    · rcases List.mem_cons.mp h with z | z
      · omega
      · exact ih _ _ z
theorem decN_ch {n c : Nat} (h : c ∈ decN n) : 48 ≤ c ∧ c ≤ 57 := by
  unfold decN at h
  rw [List.mem_reverse] at h
  rcases List.mem_cons.mp h with z | z
  · omega
  · exact dgN_ch _ _ _ z
theorem mem_0 {t : List Nat} (h : ¬ t = []) : t.getD 0 0 ∈ t := by
  cases t with
  | nil => exact absurd rfl h
  | cons a r => exact List.mem_cons_self
theorem decN_ne (n : Nat) : ¬ decN n = [] := by
  intro h
  have := (decN_len n).1
  rw [h, List.length_nil] at this
  omega
theorem tok_num (v : Int64) : tokOK (numN v) := by
  have hc : ∀ c, c ∈ numN v → c = 45 ∨ (48 ≤ c ∧ c ≤ 57) := by
    intro c h
    unfold numN at h
    rcases List.mem_append.mp h with z | z
    · split at z
      · rw [List.mem_singleton] at z; exact Or.inl z
      · cases z
    · exact Or.inr (decN_ch z)
  have ne : ¬ numN v = [] := by
    unfold numN
    intro h
    exact decN_ne _ (List.append_eq_nil_iff.mp h).2
  exact tok_of ne (fun c h => by have := hc c h; omega) (by have := hc _ (mem_0 ne); omega)
theorem tok_sgn (v : Int64) : tokOK (43 :: numN v) := by
  have h := tok_num v
  exact tok_of (fun z => by cases z) (fun c hc => by
    rcases List.mem_cons.mp hc with z | z
    · omega
    · exact h.2.1 c z) (by show ¬ 43 = 64; decide)
theorem tok_at64 {c : Nat} (h : c < 60) : tokOK (64 :: nB c) := by
  have hn := tok_num (nI c).toInt64
  refine ⟨fun z => (by cases z), fun x hx => ?_, fun r e => ⟨c, h, ?_⟩⟩
  · rcases List.mem_cons.mp hx with z | z
    · omega
    · exact hn.2.1 x z
  · cases e
    rfl
theorem tok_bytes {B : List Nat} (hB : ∀ j, B.getD j 0 < 256) {p n : Nat} : tokOK (bytesT B p n) := by
  have hh : ∀ (n p c : Nat), c ∈ hexL B p n → 33 ≤ c ∧ c ≤ 126 := by
    intro n
    induction n with
    | zero => intro p c h; rw [hexL] at h; cases h
    | succ n ih =>
      intro p c h
      have := hB p
      rw [hexL] at h
      have hx1 : ∀ d, d < 16 → 33 ≤ hx d ∧ hx d ≤ 126 := by decide
      rcases List.mem_cons.mp h with z | z
      · rw [z]; exact hx1 _ (by omega)
      · rcases List.mem_cons.mp z with y | y
        · rw [y]; exact hx1 _ (by omega)
        · exact ih _ _ y
  unfold bytesT
  exact tok_of (fun z => by cases z) (fun c hc => by
    rcases List.mem_cons.mp hc with z | z
    · omega
    · exact hh _ _ c z) (by show ¬ 120 = 64; decide)
theorem tok_name {B : List Nat} (hB : ∀ j, B.getD j 0 < 256) {p n : Nat} : tokOK (nameT B p n) := by
  unfold nameT
  split
  next c =>
    have hr : ∀ (n p : Nat), plainN B p n = true → ∀ c, c ∈ rawL B p n → 33 ≤ c ∧ c ≤ 126 := by
      intro n
      induction n with
      | zero => intro p _ c h; rw [rawL] at h; cases h
      | succ n ih =>
        intro p hp c h
        rw [plainN] at hp
        rw [rawL] at h
        split at hp
        next q =>
          rcases List.mem_cons.mp h with z | z
          · rw [z]; exact ⟨q.1, q.2.1⟩
          · exact ih _ hp c z
        next => cases hp
    exact tok_of (fun z => by cases z) (fun x hx => by
      rcases List.mem_cons.mp hx with z | z
      · omega
      · rcases List.mem_append.mp z with y | y
        · exact hr _ _ c.2 x y
        · rw [List.mem_singleton] at y; omega) (by show ¬ 34 = 64; decide)
  next => exact tok_bytes hB
theorem tk_sp2 {S t : List Nat} (h1 : tq S) (h2 : tokOK t) : tq (S ++ [32] ++ t) := by
  have := tq_sp h1 h2
  rw [List.append_assoc]
  exact this
section TOLD
variable {B : List Nat} {f n : Nat} {T : Nat → Bool}
theorem tq_dis (hc : ∀ z, T z = true → cntB T z < 60) {p : Nat} : ∀ (r k : Nat) (S : List Nat), tq S → tq (S ++ disT B f T p r k) := by
  intro r
  induction r with
  | zero => intro k S h; rw [disT, List.append_nil]; exact h
  | succ r ih =>
    intro k S h
    have ht : tokOK (dT B f T p k) := by
      unfold dT
      split
      next c => exact tok_at64 (hc _ c.2)
      next c =>
        split
        · exact tok_num _
        · exact tok_sgn _
    have := ih (k + 1) _ (tq_sp h ht)
    rw [disT]
    simp only [List.append_assoc, List.cons_append] at this ⊢
    exact this
theorem tq_ins (hc : ∀ z, T z = true → cntB T z < 60) {p : Nat} (h10 : B.getD p 0 ≤ 10) : tq (insT B f T p) := by
  unfold insT
  apply tq_dis hc
  have h1 : tokOK (opW (B.getD p 0)) := tok_tx _ (by omega) (by omega)
  unfold opA
  split
  · exact tq_sp (tq_tok h1) (tok_num _)
  · split
    · exact tq_sp (tq_tok h1) (tok_num _)
    · rw [List.append_nil]
      exact tq_tok h1
theorem tk_pls {L : List Nat} (hL : okL B f n L) (hc : ∀ z, T z = true → cntB T z < 60) : ∀ (r i : Nat), tk (plsT B f T L r i) := by
  intro r
  induction r with
  | zero => intro i; exact tk_nil
  | succ r ih =>
    intro i
    rw [plsT]
    refine tk_app ?_ (ih (i + 1))
    unfold plT
    split
    next h =>
      have h1 : tk (lbl T i) := by
        unfold lbl
        split
        next c => exact tk_tok (tok_at64 (hc i c)) (Or.inr rfl)
        next => exact tk_nil
      rw [List.append_assoc]
      exact tk_app h1 (tq_ln (tq_ins hc (hL _ h).2.2.2))
    next => exact tk_nil
end TOLD
theorem cntB_mono {T : Nat → Bool} : ∀ (j i : Nat), i ≤ j → cntB T i ≤ cntB T j := by
  intro j
  induction j with
  | zero => intro i h; rw [show i = 0 by omega]; exact Nat.le_refl _
  | succ j ih =>
    intro i h
    by_cases e : i = j + 1
    · rw [e]; exact Nat.le_refl _
    · have := ih i (by omega)
      rw [cntB]
      omega
theorem cT_60 {B : List Nat} {p : Nat} (hn : cN B p ≤ 120) (c : clearN B p = true) : ∀ z, cT B p z = true → cntB (cT B p) z < 60 := by
  intro z hz
  have h2 := cntB_hits (T := cT B p) (cN B p) (hits B (p + 3) (p + 3 + cN B p) 120 (p + 3)) (by
    intro z hz hTz
    obtain ⟨_, _, h⟩ := Tb_iff.mp hTz
    rcases h with ⟨x, x1, x2, q, q1, q2⟩ | ⟨q, q1, _⟩
    · exact hits_mem 120 _ x q c x1 q1 (tgI_z q2 (by omega)).1
    · omega)
  have h3 : 2 * (hits B (p + 3) (p + 3 + cN B p) 120 (p + 3)).length ≤ p + 3 + cN B p - (p + 3) := hits_len (f := p + 3) 120 (p + 3) c
  have zn := (cT_ok z hz).1
  have h4 := cntB_mono (T := cT B p) (cN B p) (z + 1) (by omega)
  rw [cntB, hz, if_pos rfl] at h4
  omega
theorem tk_item {B : List Nat} (hB : ∀ j, B.getD j 0 < 256) {part p : Nat} (hk : part ≤ 3) (h : iEnd B part p ≤ B.length) (h120 : B.length ≤ 120) : tq (itT B part p) := by
  have tx : ∀ j, j < 33 → 11 ≤ j → tq (txN j) := fun j h1 h2 => tq_tok (tok_tx j h1 h2)
  have cs : part = 0 ∨ part = 1 ∨ part = 2 ∨ part = 3 := by omega
  rcases cs with c | c | c | c <;> subst c
  · show tq (entT B p)
    unfold entT
    split
    · exact tk_sp2 (tx 12 (by decide) (by decide)) (tok_num _)
    · split
      · exact tk_sp2 (tx 13 (by decide) (by decide)) (tok_name hB)
      · split
        · exact tk_sp2 (tk_sp2 (tx 14 (by decide) (by decide)) (tok_num _)) (tok_num _)
        · exact tk_sp2 (tx 15 (by decide) (by decide)) (tok_num _)
  · show tq (fldT B p)
    exact tk_sp2 (tk_sp2 (tx 16 (by decide) (by decide)) (tok_num _)) (tok_num _)
  · have h : p + 3 + cN B p ≤ B.length := h
    show tq (codT0 B p)
    unfold codT0 codH
    refine tk_q (tk_app (tq_ln (tk_sp2 (tk_sp2 (tk_sp2 (tx 18 (by decide) (by decide)) (tok_num _)) (tok_num _)) (tok_tx 19 (by decide) (by decide)))) ?_) (tx 21 (by decide) (by decide))
    unfold bodT
    split
    next c => exact tk_pls (okL_st c) (cT_60 (by omega) c) _ _
    next => exact tq_ln (tk_sp2 (tx 20 (by decide) (by decide)) (tok_bytes hB))
  · show tq (attT B p)
    exact tk_sp2 (tk_sp2 (tx 17 (by decide) (by decide)) (tok_num _)) (tok_bytes hB)
theorem tk_tel {B : List Nat} (hB : ∀ j, B.getD j 0 < 256) (H : shape B) : tk (telT B) := by
  obtain ⟨h1, h2, h3, h4, h5⟩ := H
  have its : ∀ (k n p : Nat), k ≤ 3 → (∀ i, i < n → itemOK B k (itN B k p i)) → tk (itsT B k n p) := by
    intro k n
    induction n with
    | zero => intro p _ _; exact tk_nil
    | succ n ih =>
      intro p hk ho
      have o0 := ho 0 (by omega)
      rw [itN] at o0
      rw [itsT]
      exact tk_app (tq_ln (tk_item hB hk o0.1 h3)) (ih (iEnd B k p) hk (fun i hi => by
        have := ho (i + 1) (by omega)
        rw [itN] at this
        exact this))
  have prt : ∀ (r k : Nat), k + r = 4 → tk (prtT B r k) := by
    intro r
    induction r with
    | zero => intro k _; exact tk_nil
    | succ r ih =>
      intro k hk
      rw [prtT]
      exact tk_app (its k _ _ (by omega) (h4 k (by omega)).2.2) (ih (k + 1) (by omega))
  unfold telT
  exact tk_app (tq_ln (tk_sp2 (tq_tok (tok_tx 11 (by decide) (by decide))) (tok_num _))) (prt 4 0 rfl)
