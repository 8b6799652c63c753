/-! what is made of a text is a block -/
def b256 (l : List Nat) : Prop := ∀ x, x ∈ l → x < 256
theorem b256_app {a c : List Nat} (h1 : b256 a) (h2 : b256 c) : b256 (a ++ c) := by
  intro x hx
  rcases List.mem_append.mp hx with h | h
  · exact h1 x h
  · exact h2 x h
theorem b256_cons {x : Nat} {a : List Nat} (h1 : x < 256) (h2 : b256 a) : b256 (x :: a) := by
  intro y hy
  rcases List.mem_cons.mp hy with h | h
  · rw [h]; exact h1
  · exact h2 y h
theorem b256_nil : b256 [] := fun x h => (by cases h)
theorem b256_set {a : List Nat} {i c : Nat} (h1 : b256 a) (h2 : c < 256) : b256 (a.set i c) := by
  intro x hx
  rcases List.mem_or_eq_of_mem_set hx with h | h
  · exact h1 x h
  · rw [h]; exact h2
theorem b256_get {a : List Nat} (h : b256 a) (j : Nat) : a.getD j 0 < 256 := by
  by_cases c : j < a.length
  · rw [List.getD_eq_getElem?_getD, List.getElem?_eq_getElem c]
    exact h _ (List.getElem_mem c)
  · rw [getD_out (by omega)]
    decide
theorem b256_of {a : List Nat} (h : ∀ j, a.getD j 0 < 256) : b256 a := by
  intro x hx
  obtain ⟨i, hi, e⟩ := List.getElem_of_mem hx
  have := h i
  rw [List.getD_eq_getElem?_getD, List.getElem?_eq_getElem hi] at this
  rw [← e]
  exact this
theorem b256_low (v : Int64) : ∀ k, b256 (lowBy v k)
  | 0 => b256_nil
  | k + 1 => b256_cons (byt_lt v k) (b256_low v k)
section SPEC
variable {S : List Nat} {p b : Nat}
theorem num_ok {m M : Int64} {k : Nat} {xs : List Nat} (h : rNum S m M k p b = some xs) : xs.length = k ∧ b + k ≤ 120 ∧ b256 xs := by
  have := rNum_len h
  exact ⟨this.1, this.2.1, b256_of this.2.2⟩
theorem hex_ok {cn : Nat} {xs : List Nat} (h : rHex S cn p b = some xs) : b256 xs ∧ b + xs.length ≤ 120 ∧ ∃ n ys, ys.length = n ∧ xs = (if cn = 0 then [] else [n]) ++ ys ∧ xs.length ≤ cn + n := by
  unfold rHex at h
  split at h
  next c =>
    cases h
    have od := areB_odd c.1
    have hh : ∀ (k a : Nat), allHex S (2 * k) a = true → b256 (hexBs S k a) := by
      intro k
      induction k with
      | zero => intro a _; exact b256_nil
      | succ k ih =>
        intro a ha
        have h1 := allHex_at _ _ a ha (by omega) (by omega)
        have h2 := allHex_at _ _ (a + 1) ha (by omega) (by omega)
        have v1 := hexV_lt h1
        have v2 := hexV_lt h2
        rw [hexBs]
        refine b256_cons (by unfold byO; omega) (ih (a + 2) ?_)
        rw [show 2 * (k + 1) = 2 * k + 1 + 1 by omega, allHex, if_pos h1, allHex, if_pos h2] at ha
        exact ha
    have ah : allHex S (2 * hexK S p) (wF S p + 1) = true := by
      have c1 := c.1
      unfold areB at c1
      split at c1
      next c2 =>
        rw [show 2 * hexK S p = wT S p - wF S p - 1 by omega]
        exact c1
      next => cases c1
    have hb := hh _ _ ah
    have ll := hexBs_len (S := S) (hexK S p) (wF S p + 1)
    refine ⟨?_, ?_, hexK S p, _, ll, rfl, ?_⟩
    · split
      · exact hb
      · exact b256_cons (by omega) hb
    · rw [List.length_append, ll]
      split
      · rw [List.length_nil]; omega
      · rw [List.length_singleton]
        by_cases z : cn = 0
        · omega
        · omega
    · rw [List.length_append, ll]
      split
      · rw [List.length_nil]; omega
      · rw [List.length_singleton]; omega
  next => cases h
theorem rawL_b (hS : ∀ j, S.getD j 0 < 256) : ∀ (n a : Nat), b256 (rawL S a n)
  | 0, _ => b256_nil
  | n + 1, a => b256_cons (hS a) (rawL_b hS n (a + 1))
theorem nam_ok {xs : List Nat} (hS : ∀ j, S.getD j 0 < 256) (h : rNam S p b = some xs) : b256 xs ∧ b + xs.length ≤ 120 ∧ ∃ n ys, ys.length = n ∧ xs = n :: ys := by
  unfold rNam at h
  split at h
  next c =>
    obtain ⟨h1, h2, n, ys, e1, e2, _⟩ := hex_ok h
    exact ⟨h1, h2, n, ys, e1, e2⟩
  next =>
    unfold rQuo at h
    split at h
    next c =>
      cases h
      refine ⟨b256_cons (by omega) (rawL_b hS _ _), ?_, quoK S p, _, rawL_len _ _, rfl⟩
      rw [List.length_cons, rawL_len]
      omega
    next => cases h
theorem dss_b {o : Nat} : ∀ (k p b y t : Nat) (xs : List Nat) (n : NM), dssP S k p b o y = .inr (t, xs, n) → b256 xs := by
  intro k
  induction k with
  | zero => intro p b y t xs n h; rw [dssP] at h; cases h; exact b256_nil
  | succ k ih =>
    intro p b y t xs n h
    rw [dssP] at h
    split at h
    next => cases h
    next xs1 n1 e =>
      split at h
      next => cases h
      next t2 ys n2 e2 =>
        cases h
        refine b256_app ?_ (ih _ _ _ _ _ _ e2)
        unfold dstP at e
        split at e
        next N e3 =>
          split at e
          next => cases e; exact b256_cons (by decide) (b256_cons (by decide) b256_nil)
          next => cases e
        next e3 =>
          split at e
          next v e4 =>
            split at e
            next => cases e; exact b256_low v 2
            next => cases e
          next => cases e
theorem ins_b {y t : Nat} {xs : List Nat} {n : NM} (hp : p ≤ S.length) (h : insP S p b y = .inr (t, xs, n)) : b256 xs := by
  have wb := w_b hp
  unfold insP at h
  split at h
  next c =>
    split at h
    next => cases h
    next t1 xs1 e1 =>
      have a := arg_len wb.2.2.1 e1
      split at h
      next => cases h
      next t2 ys n2 e2 =>
        cases h
        exact b256_app (b256_cons (by omega) (b256_of a.2.2.2.2)) (dss_b _ _ _ _ _ _ _ e2)
  next => cases h
theorem stl_b {ls : List Nat} : ∀ (ns : NM) (M M2 : List Nat), stl ls ns M = some M2 → b256 M → b256 M2 := by
  intro ns
  induction ns with
  | nil => intro M M2 h hM; rw [stl] at h; cases h; exact hM
  | cons n r ih =>
    intro M M2 h hM
    rw [stl] at h
    split at h
    next => exact ih _ _ h (b256_set (b256_set hM (Nat.mod_lt _ (by decide))) (Nat.mod_lt _ (by decide)))
    next => cases h
theorem cod_ok : ∀ (k p b0 : Nat) (Y ls : List Nat) (ns : NM) (t : Nat) (Y2 : List Nat), p ≤ S.length → b0 + Y.length ≤ 120 → b256 Y → codP S k p b0 Y ls ns = .inr (t, Y2) → b0 + Y2.length ≤ 120 ∧ b256 Y2 ∧ t ≤ S.length := by
  intro k
  induction k with
  | zero => intro p b0 Y ls ns t Y2 _ _ _ h; rw [codP] at h; cases h
  | succ k ih =>
    intro p b0 Y ls ns t Y2 hp hb hY h
    rw [codP] at h
    split at h
    · split at h
      next Y3 e =>
        cases h
        have := stl_len ns Y Y2 e
        exact ⟨by omega, stl_b ns Y Y2 e hY, (w_b hp).2.2.1⟩
      next => cases h
    · split at h
      next N e =>
        split at h
        next => exact ih _ _ _ _ _ _ _ (w_b hp).2.2.1 hb hY h
        next => cases h
      next e =>
        split at h
        next => cases h
        next t1 xs n e1 =>
          have ok := ins_ok hp e1
          exact ih _ _ _ _ _ _ _ ok.2.2.2.2 (by rw [List.length_append]; omega) (b256_app hY (ins_b hp e1)) h
theorem bod_ok {b0 t : Nat} {Y : List Nat} (hp : p ≤ S.length) (hb : b0 ≤ 120) (h : bodP S p b0 = .inr (t, Y)) : b0 + Y.length ≤ 120 ∧ b256 Y ∧ t ≤ S.length := by
  unfold bodP at h
  split at h
  · split at h
    next => cases h
    next xs e =>
      split at h
      next =>
        cases h
        obtain ⟨h1, h2, _⟩ := hex_ok e
        exact ⟨h2, h1, (w_b (w_b (w_b hp).2.2.1).2.2.1).2.2.1⟩
      next => cases h
  · exact cod_ok (S.length + 1) p b0 [] [] [] t Y hp hb b256_nil h
end SPEC
/-- an item by itself -/
def okIt (k : Nat) (xs : List Nat) : Prop := 2 ≤ xs.length ∧ ∀ pre post, iEnd (pre ++ xs ++ post) k pre.length = pre.length + xs.length ∧ (k = 0 → 1 ≤ (pre ++ xs ++ post).getD pre.length 0 ∧ (pre ++ xs ++ post).getD pre.length 0 ≤ 4)
theorem mid_get {pre xs post : List Nat} {i : Nat} (h : i < xs.length) : (pre ++ xs ++ post).getD (pre.length + i) 0 = xs.getD i 0 := by
  rw [List.append_assoc, List.getD_eq_getElem?_getD, List.getElem?_append_right (by omega), Nat.add_sub_cancel_left, List.getElem?_append_left h, List.getD_eq_getElem?_getD]
theorem okIt_of {k : Nat} {xs : List Nat} (h : 2 ≤ xs.length) (h0 : k = 0 → (1 ≤ xs.getD 0 0 ∧ xs.getD 0 0 ≤ 4) ∧ xs.length = (if xs.getD 0 0 = 1 then 5 else if xs.getD 0 0 = 2 then 2 + xs.getD 1 0 else if xs.getD 0 0 = 3 then 3 else 9)) (h1 : k = 1 → xs.length = 2) (h2 : k = 2 → 3 ≤ xs.length ∧ xs.length = 3 + xs.getD 2 0) (h3 : k = 3 → xs.length = 2 + xs.getD 1 0) (hk : k ≤ 3) : okIt k xs := by
  refine ⟨h, fun pre post => ?_⟩
  have g0 : (pre ++ xs ++ post).getD pre.length 0 = xs.getD 0 0 := mid_get (i := 0) (by omega)
  have g1 := mid_get (pre := pre) (xs := xs) (post := post) (i := 1) (by omega)
  have cs : k = 0 ∨ k = 1 ∨ k = 2 ∨ k = 3 := by omega
  rcases cs with c | c | c | c <;> subst c
  · obtain ⟨a, e⟩ := h0 rfl
    refine ⟨?_, fun _ => by rw [g0]; exact a⟩
    show eEnd _ _ = _
    unfold eEnd
    rw [g0, g1, e]
    split
    · rfl
    · split
      · omega
      · split <;> rfl
  · refine ⟨?_, fun z => (by cases z)⟩
    rw [h1 rfl]
    rfl
  · obtain ⟨a, e⟩ := h2 rfl
    have g2 := mid_get (pre := pre) (xs := xs) (post := post) (i := 2) (by omega)
    refine ⟨?_, fun z => (by cases z)⟩
    show pre.length + 3 + (pre ++ xs ++ post).getD (pre.length + 2) 0 = _
    rw [g2]
    omega
  · have e := h3 rfl
    refine ⟨?_, fun z => (by cases z)⟩
    show pre.length + 2 + (pre ++ xs ++ post).getD (pre.length + 1) 0 = _
    rw [g1]
    omega
section SPEC2
variable {S : List Nat} {p b : Nat}
theorem byt_ok {t : Nat} {xs : List Nat} (h : bytP S p b = .inr (t, xs)) : xs.length = 1 ∧ b + 1 ≤ 120 ∧ b256 xs ∧ t = wT S p := by
  unfold bytP one at h
  split at h
  next ys e =>
    cases h
    have := num_ok e
    exact ⟨this.1, this.2.1, this.2.2, rfl⟩
  next => cases h
theorem two_ok {t : Nat} {xs : List Nat} (hp : p ≤ S.length) (h : twoP S p b = .inr (t, xs)) : xs.length = 2 ∧ b + 2 ≤ 120 ∧ b256 xs ∧ t ≤ S.length := by
  unfold twoP andP at h
  split at h
  next => cases h
  next t1 ys e =>
    split at h
    next => cases h
    next t2 zs e2 =>
      cases h
      have h1 := byt_ok e
      have h2 := byt_ok e2
      have w1 := w_b hp
      have w2 := w_b w1.2.2.1
      refine ⟨by rw [List.length_append]; omega, by omega, b256_app h1.2.2.1 h2.2.2.1, ?_⟩
      rw [h2.2.2.2, h1.2.2.2]
      exact w2.2.2.1
theorem item_ok {q k t : Nat} {xs : List Nat} (hS : ∀ j, S.getD j 0 < 256) (hp : p ≤ S.length) (h : itemP S q p b = .inr (k, t, xs)) : okIt k xs ∧ b + xs.length ≤ 120 ∧ b256 xs ∧ q ≤ k ∧ k ≤ 3 ∧ t ≤ S.length := by
  have wb := w_b hp
  have k4 := kw_le (S := S) (p := p)
  have p3 := pw_le (S := S) (p := p)
  unfold itemP at h
  split at h
  next ck =>
    split at h
    next cq =>
      split at h
      next => cases h
      next t1 ys e =>
        cases h
        have one_num : ∀ (m M : Int64) (n : Nat), one S (wT S p) (rNum S m M n (wT S p) (b + 1)) = .inr (t, ys) → ys.length = n ∧ b + 1 + n ≤ 120 ∧ b256 ys ∧ t ≤ S.length := by
          intro m M n h
          unfold one at h
          split at h
          next zs e =>
            cases h
            have := num_ok e
            exact ⟨this.1, this.2.1, this.2.2, (w_b wb.2.2.1).2.2.1⟩
          next => cases h
        have fin : ∀ (len : Nat), ys.length + 1 = len → b + 1 + ys.length ≤ 120 → b256 ys → (len = (if kwN S p = 1 then 5 else if kwN S p = 2 then 2 + ys.getD 0 0 else if kwN S p = 3 then 3 else 9)) → 2 ≤ len → t ≤ S.length → okIt 0 (kwN S p :: ys) ∧ b + (kwN S p :: ys).length ≤ 120 ∧ b256 (kwN S p :: ys) ∧ q ≤ 0 ∧ 0 ≤ 3 ∧ t ≤ S.length := by
          intro len e1 e2 e3 e4 e5 e6
          refine ⟨okIt_of (by rw [List.length_cons]; omega) (fun _ => ⟨⟨?_, ?_⟩, ?_⟩) (fun z => (by cases z)) (fun z => (by cases z)) (fun z => (by cases z)) (by decide), by rw [List.length_cons]; omega, b256_cons (by omega) e3, by omega, by decide, e6⟩
          · show 1 ≤ kwN S p
            omega
          · exact k4
          · rw [List.length_cons, e1]
            exact e4
        unfold entP at e
        split at e
        next c1 =>
          obtain ⟨a1, a2, a3, a4⟩ := one_num _ _ _ e
          exact fin 5 (by omega) (by omega) a3 (by rw [if_pos c1]) (by decide) a4
        next c1 =>
          split at e
          next c2 =>
            unfold one at e
            split at e
            next zs e2 =>
              cases e
              obtain ⟨a1, a2, n, us, a3, a4⟩ := nam_ok hS e2
              subst a4
              have l1 : (n :: us).length = n + 1 := by rw [List.length_cons, a3]
              refine fin (2 + n) (by omega) (by omega) a1 (by rw [if_neg c1, if_pos c2]; rfl) (by omega) (w_b wb.2.2.1).2.2.1
            next => cases e
          next c2 =>
            split at e
            next c3 =>
              have := two_ok wb.2.2.1 e
              exact fin 3 (by omega) (by omega) this.2.2.1 (by rw [if_neg c1, if_neg c2, if_pos c3]) (by decide) this.2.2.2
            next c3 =>
              obtain ⟨a1, a2, a3, a4⟩ := one_num _ _ _ e
              exact fin 9 (by omega) (by omega) a3 (by rw [if_neg c1, if_neg c2, if_neg c3]) (by decide) a4
    next => cases h
  next ck =>
    split at h
    next => cases h
    next cp =>
      split at h
      next => cases h
      next t1 ys e =>
        cases h
        split at e
        next c1 =>
          have := two_ok wb.2.2.1 e
          refine ⟨okIt_of (by omega) (fun z => by omega) (fun _ => this.1) (fun z => by omega) (fun z => by omega) p3, by omega, this.2.2.1, by omega, p3, this.2.2.2⟩
        next c1 =>
          split at e
          next c2 =>
            unfold andP at e
            split at e
            next => cases e
            next t1 ys e1 =>
              have h1 := two_ok wb.2.2.1 e1
              split at e
              next => cases e
              next t2 zs e2 =>
                cases e
                unfold codeP at e2
                split at e2
                next c3 =>
                  split at e2
                  next => cases e2
                  next t3 Y e3 =>
                    cases e2
                    have hb := bod_ok (w_b h1.2.2.2).2.2.1 c3.2 e3
                    have ll : (ys ++ Y.length :: Y).length = 3 + Y.length := by rw [List.length_append, List.length_cons]; omega
                    have g2 : (ys ++ Y.length :: Y).getD 2 0 = Y.length := by
                      have := getD_mid (M := ys) (c := Y.length) (xs := Y)
                      rw [h1.1] at this
                      exact this.1
                    refine ⟨okIt_of (by omega) (fun z => by omega) (fun z => by omega) (fun _ => ⟨by omega, by rw [g2]; exact ll⟩) (fun z => by omega) p3, by omega, b256_app h1.2.2.1 (b256_cons (by omega) hb.2.1), by omega, p3, hb.2.2⟩
                next => cases e2
          next c2 =>
            unfold andP at e
            split at e
            next => cases e
            next t1 ys e1 =>
              have h1 := byt_ok e1
              split at e
              next => cases e
              next t2 zs e2 =>
                cases e
                have e2 : one S t1 (rHex S 1 t1 (b + ys.length)) = .inr (t, zs) := e2
                unfold one at e2
                split at e2
                next us e3 =>
                  cases e2
                  obtain ⟨a1, a2, n, vs, a3, a4, _⟩ := hex_ok e3
                  rw [if_neg (by decide)] at a4
                  subst a4
                  have ll : (ys ++ ([n] ++ vs)).length = 2 + n := by simp only [List.length_append, List.length_singleton]; omega
                  have g1 : (ys ++ ([n] ++ vs)).getD 1 0 = n := by
                    have := getD_mid (M := ys) (c := n) (xs := vs)
                    rw [h1.1] at this
                    exact this.1
                  simp only [List.length_append, List.length_singleton] at a2
                  refine ⟨okIt_of (by omega) (fun z => by omega) (fun z => by omega) (fun z => by omega) (fun _ => by rw [g1]; exact ll) p3, by omega, b256_app h1.2.2.1 a1, by omega, p3, by rw [h1.2.2.2]; exact (w_b (w_b wb.2.2.1).2.2.1).2.2.1⟩
                next => cases e2
end SPEC2
/-! the scan of what is made -/
theorem limN_eq {B : List Nat} (h : B.length ≤ 120) : limN B = B.length := Nat.min_eq_left h
theorem its_ok {k : Nat} {post : List Nat} : ∀ (I : List (List Nat)) (pre : List Nat), (∀ x, x ∈ I → okIt k x) → (pre ++ I.flatten ++ post).length ≤ 120 → itemsN (pre ++ I.flatten ++ post) k I.length pre.length = .inr (pre.length + I.flatten.length) := by
  intro I
  induction I with
  | nil => intro pre _ _; rfl
  | cons x I ih =>
    intro pre h hl
    have hx := h x List.mem_cons_self
    have e1 : pre ++ (x :: I).flatten ++ post = pre ++ x ++ (I.flatten ++ post) := by
      rw [List.flatten_cons]
      simp only [List.append_assoc]
    have e2 : pre ++ x ++ (I.flatten ++ post) = (pre ++ x) ++ I.flatten ++ post := by simp only [List.append_assoc]
    rw [e1] at hl ⊢
    have ih2 := ih (pre ++ x) (fun y hy => h y (List.mem_cons_of_mem _ hy)) (by rw [← e2]; exact hl)
    have ok := hx.2 pre (I.flatten ++ post)
    have ll : (pre ++ x ++ (I.flatten ++ post)).length = pre.length + x.length + (I.flatten ++ post).length := by rw [List.length_append, List.length_append]
    have st : stepN (pre ++ x ++ (I.flatten ++ post)) k pre.length = .inr (pre.length + x.length) := by
      unfold stepN
      rw [limN_eq hl, ok.1, if_neg (fun z => z.2.2 (ok.2 z.1)), if_pos (by omega)]
    rw [List.length_cons, itemsN, st]
    show itemsN (pre ++ x ++ (I.flatten ++ post)) k I.length (pre.length + x.length) = _
    rw [← List.length_append, e2, ih2, List.flatten_cons, List.length_append, List.length_append, Nat.add_assoc]
/-- the parts before part q are complete -/
def PD (q : Nat) (D : List Nat) : Prop := 2 ≤ D.length ∧ D.getD 0 0 = 77 ∧ ∀ post, (D ++ post).length ≤ 120 → partsN (D ++ post) 4 2 = partsN (D ++ post) (4 - q) D.length
theorem PD_next {q : Nat} {D : List Nat} {I : List (List Nat)} (h : PD q D) (hq : q ≤ 3) (hI : ∀ x, x ∈ I → okIt q x) : PD (q + 1) (M0 D I) := by
  obtain ⟨h1, h2, h3⟩ := h
  refine ⟨by rw [M0_len]; omega, ?_, fun post hp => ?_⟩
  · unfold M0
    rw [List.getD_eq_getElem?_getD, List.getElem?_append_left (by omega), ← List.getD_eq_getElem?_getD]
    exact h2
  · have e1 : M0 D I ++ post = D ++ (I.length :: I.flatten ++ post) := by
      unfold M0
      rw [List.append_assoc]
    have e2 : M0 D I ++ post = (D ++ [I.length]) ++ I.flatten ++ post := by
      unfold M0
      simp only [List.append_assoc, List.cons_append, List.nil_append]
    have hl := hp
    rw [e1] at hp
    have h4 := h3 _ hp
    rw [← e1] at h4
    rw [h4]
    have e4 : 4 - q = (4 - (q + 1)) + 1 := by omega
    have g : (M0 D I ++ post).getD D.length 0 = I.length := by
      rw [e1]
      exact getD_mid.1
    have it := its_ok (k := q) (post := post) I (D ++ [I.length]) hI (by rw [← e2]; exact hl)
    rw [← e2, List.length_append, List.length_singleton] at it
    have ml : (M0 D I ++ post).length = D.length + 1 + I.flatten.length + post.length := by rw [List.length_append, M0_len]
    rw [e4, partsN, limN_eq hl, if_pos (by omega), g, show 3 - (4 - (q + 1)) = q by omega, it]
    show partsN _ _ _ = _
    rw [M0_len]
theorem PD_zeros {q : Nat} : ∀ (j : Nat) (D : List Nat), PD q D → q + j ≤ 4 → PD (q + j) (D ++ List.replicate j 0) := by
  intro j
  induction j generalizing q with
  | zero => intro D h _; rw [List.replicate_zero, List.append_nil]; exact h
  | succ j ih =>
    intro D h hq
    have h1 := PD_next (I := []) h (by omega) (fun x hx => (by cases hx))
    have e : M0 D [] = D ++ [0] := rfl
    rw [e] at h1
    have h2 := ih (q := q + 1) (D ++ [0]) h1 (by omega)
    rw [List.append_assoc] at h2
    rw [show q + (j + 1) = q + 1 + j by omega]
    exact h2
theorem PD_end {M : List Nat} (h : PD 4 M) (hl : M.length ≤ 120) : scanN M = none := by
  obtain ⟨h1, h2, h3⟩ := h
  have h4 := h3 [] (by rw [List.append_nil]; exact hl)
  rw [List.append_nil, Nat.sub_self] at h4
  unfold scanN
  rw [h4, if_neg (fun z => z.2 h2)]
  show (if M.length < M.length then some M.length else none) = none
  rw [if_neg (by omega)]
theorem top_ok {S : List Nat} (hS : ∀ j, S.getD j 0 < 256) : ∀ (k p : Nat) (D : List Nat) (q : Nat) (I : List (List Nat)) (M : List Nat), p ≤ S.length → PD q D → q ≤ 3 → (∀ x, x ∈ I → okIt q x) → (M0 D I).length + 3 - q ≤ 120 → b256 (M0 D I) → topP S k p D q I = .inr M → scanN M = none ∧ b256 M ∧ M.length ≤ 120 := by
  intro k
  induction k with
  | zero => intro p D q I M _ _ _ _ _ _ h; rw [topP] at h; cases h
  | succ k ih =>
    intro p D q I M hp hD hq hI hl hb h
    rw [topP] at h
    split at h
    next hw =>
      split at h
      next => cases h
      next j t xs e =>
        obtain ⟨o1, o2, o3, o4, o5, o6⟩ := item_ok hS hp e
        have hlen := congrArg List.length (nx_M0 (D := D) (I := I) o4)
        rw [M0_len, List.length_append, List.length_replicate] at hlen
        have e2 : M0 (nxD D I q j) (nxI I q j ++ [xs]) = nxD D I q j ++ ((nxI I q j).length + 1) :: (nxI I q j).flatten ++ xs := by
          unfold M0
          rw [List.length_append, List.length_singleton, List.flatten_append, List.append_assoc]
          simp only [List.flatten_cons, List.flatten_nil, List.append_nil, List.cons_append]
        have ll : (M0 (nxD D I q j) (nxI I q j ++ [xs])).length = (nxD D I q j).length + 1 + (nxI I q j).flatten.length + xs.length := by
          rw [e2, List.length_append, List.length_append, List.length_cons]
          omega
        have PDj : PD j (nxD D I q j) := by
          unfold nxD
          by_cases c : j = q
          · rw [if_pos c, c]; exact hD
          · rw [if_neg c]
            have := PD_zeros (j - q - 1) _ (PD_next hD hq hI) (by omega)
            rw [show q + 1 + (j - q - 1) = j by omega] at this
            exact this
        have okI : ∀ x, x ∈ nxI I q j ++ [xs] → okIt j x := by
          intro x hx
          rcases List.mem_append.mp hx with h | h
          · unfold nxI at h
            by_cases c : j = q
            · rw [if_pos c] at h
              rw [c]
              exact hI x h
            · rw [if_neg c] at h
              cases h
          · rw [List.mem_singleton] at h
            rw [h]
            exact o1
        have cnt : ∀ (L : List (List Nat)), (∀ x, x ∈ L → okIt j x) → L.length ≤ L.flatten.length := by
          intro L
          induction L with
          | nil => intro _; exact Nat.le_refl _
          | cons x L ihL =>
            intro hL
            have := (hL x List.mem_cons_self).1
            have := ihL (fun y hy => hL y (List.mem_cons_of_mem _ hy))
            rw [List.flatten_cons, List.length_append, List.length_cons]
            omega
        have c1 := cnt _ okI
        have fl : (nxI I q j ++ [xs]).flatten.length = (nxI I q j).flatten.length + xs.length := by
          rw [List.flatten_append, List.length_append]
          simp only [List.flatten_cons, List.flatten_nil, List.append_nil]
        have ln1 : (nxI I q j ++ [xs]).length = (nxI I q j).length + 1 := by rw [List.length_append, List.length_singleton]
        have hM0 : b256 (M0 (nxD D I q j) (nxI I q j)) := by
          rw [nx_M0 o4]
          exact b256_app hb (fun x hx => by rw [(List.mem_replicate.mp hx).2]; decide)
        have hb2 : b256 (M0 (nxD D I q j) (nxI I q j ++ [xs])) := by
          rw [e2]
          refine b256_app (b256_app (fun x hx => hM0 x ?_) (b256_cons (by omega) (fun x hx => hM0 x ?_))) o3
          · unfold M0
            exact List.mem_append_left _ hx
          · unfold M0
            exact List.mem_append_right _ (List.mem_cons_of_mem _ hx)
        have ht : t ≤ S.length := o6
        exact ih t _ j _ M ht PDj o5 okI (by omega) hb2 h
    next hw =>
      cases h
      have h1 := PD_zeros (3 - q) _ (PD_next hD hq hI) (by omega)
      rw [show q + 1 + (3 - q) = 4 by omega] at h1
      have l2 : (M0 D I ++ List.replicate (3 - q) 0).length ≤ 120 := by rw [List.length_append, List.length_replicate]; omega
      exact ⟨PD_end h1 l2, b256_app hb (fun x hx => by rw [(List.mem_replicate.mp hx).2]; decide), l2⟩
theorem par_ok {S M : List Nat} (hS : ∀ j, S.getD j 0 < 256) (h : parP S = .inr M) : scanN M = none ∧ (∀ j, M.getD j 0 < 256) ∧ M.length ≤ 120 := by
  unfold parP at h
  split at h
  next c =>
    split at h
    next => cases h
    next xs e =>
      have wb := w_b (S := S) (p := 0) (Nat.zero_le _)
      have wb2 := w_b wb.2.2.1
      have n := num_ok e
      have hD : PD 0 (77 :: xs) := ⟨by rw [List.length_cons]; omega, rfl, fun post _ => by rw [List.length_cons, n.1]⟩
      have ml : (M0 (77 :: xs) []).length = 3 := by
        rw [M0_len, List.length_cons, n.1]
        rfl
      have := top_ok hS (S.length + 1) (wT S (wT S 0)) (77 :: xs) 0 [] M wb2.2.2.1 hD (by decide) (fun x hx => (by cases hx)) (by rw [ml]; decide) (b256_app (b256_cons (by decide) n.2.2) (b256_cons (by decide) b256_nil)) h
      exact ⟨this.1, b256_get this.2.1, this.2.2⟩
  next => cases h
