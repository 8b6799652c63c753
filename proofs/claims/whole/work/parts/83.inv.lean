/-! what both objects keep between the calls -/
def cInv (w : ex_W) (B P Q : List Nat) : Prop := ∃ b1 b2 us ts, ((b1 = 22 ∧ b2 = 27) ∨ (b1 = 27 ∧ b2 = 22)) ∧ w[0]? = some (obj b1 b2) ∧ (isRow w 1 2 us P.length ∧ holds us P ∧ us.length = 124) ∧ (isRow w 3 4 ts Q.length ∧ holds ts Q ∧ ts.length = 200) ∧ isMa w ∧ (∃ D pl ms, isSc w w (telT B) D pl ms) ∧ isBl w b1 B ∧ isSp w b2
def rInv (w : ex_W) (B P Q : List Nat) : Prop := (∃ m v ls ns, w[32]? = some (.inl (8, mo m v)) ∧ m 24 = nI ls.length ∧ m 28 = nI ns.length ∧ isRl w ls ns ∧ m 1 = nI B.length ∧ m 5 = nI P.length ∧ m 7 = nI Q.length ∧ m 9 = nI (telT B).length) ∧ (∃ bs, w[33]? = some (.inr (0, bs)) ∧ bs.length = 130 ∧ holds bs B) ∧ (∃ ms, w[34]? = some (.inr (0, ms)) ∧ ms.length = 140) ∧ (∃ ps, w[35]? = some (.inr (0, ps)) ∧ ps.length = 124 ∧ holds ps P) ∧ (∃ qs, w[36]? = some (.inr (0, qs)) ∧ qs.length = 200 ∧ holds qs Q) ∧ (∃ xs, w[37]? = some (.inr (0, xs)) ∧ holds xs (telT B) ∧ xs.length = 1000) ∧ (∃ ds, w[38]? = some (.inr (0, ds)) ∧ ds.length = 20) ∧ (∃ bg, w[39]? = some (.inr (1, bg)) ∧ bg.length = 121) ∧ (∃ ln, w[40]? = some (.inr (0, ln)) ∧ ln.length = 121) ∧ ∃ ss, w[41]? = some (.inr (0, ss)) ∧ ss.length = 1000
def pI (B P Q : List Nat) : Prop := (∀ j, P.getD j 0 < 256) ∧ P.length ≤ 124 ∧ chOK Q ∧ (∀ j, Q.getD j 0 < 256) ∧ Q.length ≤ 200 ∧ shape B ∧ (∀ j, B.getD j 0 < 256) ∧ (telT B).length ≤ 808
def Inv (w : ex_W) : Prop := w.length = 46 ∧ ∃ B P Q, pI B P Q ∧ cInv w B P Q ∧ rInv w B P Q
def fC (w w2 : ex_W) : Prop := w2.length = w.length ∧ ∀ j, 32 ≤ j → w2[j]? = w[j]?
def fR (w w2 : ex_W) : Prop := w2.length = w.length ∧ ∀ j, j < 32 → w2[j]? = w[j]?
section INV
variable {w w2 : ex_W} {B P Q : List Nat}
theorem row_o {h a n : Nat} {xs : List Int32} (R : isRow w h a xs n) (e1 : w2[h]? = w[h]?) (e2 : w2[a]? = w[a]?) : isRow w2 h a xs n := ⟨e1.trans R.1, e2.trans R.2.1, R.2.2⟩
theorem ma_o (A : isMa w) (e : ∀ j, 5 ≤ j → j ≤ 14 → w2[j]? = w[j]?) : isMa w2 := by
  obtain ⟨pt, cc, br, ic, hl, hr, cs, M, xs, L, n, f, t, sg, hn, bl, ls, v, lss, nss, h5, R6, H6, x6, h8, B⟩ := A
  exact ⟨pt, cc, br, ic, hl, hr, cs, M, xs, L, n, f, t, sg, hn, bl, ls, v, lss, nss, (e 5 (by decide) (by decide)).trans h5, row_o R6 (e 6 (by decide) (by decide)) (e 7 (by decide) (by decide)), H6, x6, (e 8 (by decide) (by decide)).trans h8, lb_o B (fun j h1 h2 => e j (by omega) (by omega))⟩
theorem sc_o {t D : List Nat} {pl : Nat} {ms : List Int32} {w0 : ex_W} (S : isSc w0 w t D pl ms) (e : ∀ j, 15 ≤ j → j ≤ 21 → w2[j]? = w[j]?) : isSc w2 w2 t D pl ms := by
  obtain ⟨s1, s2, s3, ⟨xs, R, H, hx⟩, ⟨ds, Rd, Hd, hd⟩, s6, s7, s8⟩ := S
  exact ⟨rfl, fun j _ => rfl, (e 15 (by decide) (by decide)).trans s3, ⟨xs, row_o R (e 16 (by decide) (by decide)) (e 17 (by decide) (by decide)), H, hx⟩, ⟨ds, row_o Rd (e 18 (by decide) (by decide)) (e 19 (by decide) (by decide)), Hd, hd⟩, (e 20 (by decide) (by decide)).trans s6, (e 21 (by decide) (by decide)).trans s7, s8⟩
theorem cInv_o (h : cInv w B P Q) (e : ∀ j, j < 32 → w2[j]? = w[j]?) : cInv w2 B P Q := by
  obtain ⟨b1, b2, us, ts, hb, h0, ⟨R1, H1, l1⟩, ⟨R3, H3, l3⟩, A, ⟨D, pl, ms, S⟩, K, Sp⟩ := h
  exact ⟨b1, b2, us, ts, hb, (e 0 (by decide)).trans h0, ⟨row_o R1 (e 1 (by decide)) (e 2 (by decide)), H1, l1⟩, ⟨row_o R3 (e 3 (by decide)) (e 4 (by decide)), H3, l3⟩, ma_o A (fun j h1 h2 => e j (by omega)), ⟨D, pl, ms, sc_o S (fun j h1 h2 => e j (by omega))⟩, isBl_o K (fun j h1 h2 => e j (by omega)), isSp_o Sp (fun j h1 h2 => e j (by omega))⟩
theorem rInv_o (h : rInv w B P Q) (e : ∀ j, 32 ≤ j → w2[j]? = w[j]?) : rInv w2 B P Q := by
  obtain ⟨⟨m, v, ls, ns, h1, h2, h3, h4, h5⟩, ⟨bs, c1⟩, ⟨ms, c2⟩, ⟨ps, c3⟩, ⟨qs, c4⟩, ⟨xs, c5⟩, ⟨ds, c6⟩, ⟨bg, c7⟩, ⟨ln, c8⟩, ⟨ss, c9⟩⟩ := h
  exact ⟨⟨m, v, ls, ns, (e 32 (by decide)).trans h1, h2, h3, rl_o h4 (fun j x y => e j (by omega)), h5⟩, ⟨bs, (e 33 (by decide)).trans c1.1, c1.2⟩, ⟨ms, (e 34 (by decide)).trans c2.1, c2.2⟩, ⟨ps, (e 35 (by decide)).trans c3.1, c3.2⟩, ⟨qs, (e 36 (by decide)).trans c4.1, c4.2⟩, ⟨xs, (e 37 (by decide)).trans c5.1, c5.2⟩, ⟨ds, (e 38 (by decide)).trans c6.1, c6.2⟩, ⟨bg, (e 39 (by decide)).trans c7.1, c7.2⟩, ⟨ln, (e 40 (by decide)).trans c8.1, c8.2⟩, ⟨ss, (e 41 (by decide)).trans c9.1, c9.2⟩⟩
theorem cInv_rc (h : cInv w B P Q) : ex_rc w 0 0 = true := by
  obtain ⟨b1, b2, us, ts, hb, h0, _⟩ := h
  exact ex_rc_o h0 (by decide) (by decide)
theorem rInv_rc (h : rInv w B P Q) : ex_rc w 32 8 = true := by
  obtain ⟨⟨m, v, ls, ns, h1, _⟩, _⟩ := h
  exact ex_rc_o h1 (by decide) (by decide)
/-- one call on both -/
theorem pr_of {mc mm : Nat} {av : List Value} {r : Int32} {B2 P2 Q2 : List Nat} (hl : w.length = 46) (h1 : cInv w B P Q) (h2 : rInv w B P Q) (hp : pI B2 P2 Q2) (hc : ∃ w1, ex_call none mc (.ref 0 :: av) w = some (some (.int r), w1) ∧ cInv w1 B2 P2 Q2 ∧ fC w w1) (hr : ∀ w, rInv w B P Q → ∃ w1, ex_call none mm (.ref 32 :: av) w = some (some (.int r), w1) ∧ rInv w1 B2 P2 Q2 ∧ fR w w1) : pr mc mm av w Inv := by
  obtain ⟨w1, a1, c1, f1⟩ := hc
  have r1 := rInv_o h2 f1.2
  obtain ⟨w2, a2, c2, f2⟩ := hr w1 r1
  exact ⟨r, w1, w2, cInv_rc h1, a1, rInv_rc r1, a2, by rw [f2.1, f1.1]; exact hl, B2, P2, Q2, hp, cInv_o c1 f2.2, c2⟩
theorem fC_id : fC w w := ⟨rfl, fun _ _ => rfl⟩
theorem fR_id : fR w w := ⟨rfl, fun _ _ => rfl⟩
end INV
/-! put and type -/
def lowN (a : Int32) : Nat → List Nat
  | 0 => []
  | k + 1 => (a >>> (((8 : Int32) * nI k) &&& 31)).toBitVec.toNat % 2 ^ 8 :: lowN a k
theorem lowN_B (a : Int32) : ∀ k, lowB a k = (lowN a k).map nI
  | 0 => rfl
  | k + 1 => by
    rw [lowB, lowN, List.map_cons, lowN_B a k, pk_and _ 8 rfl]
theorem lowN_len (a : Int32) : ∀ k, (lowN a k).length = k
  | 0 => rfl
  | k + 1 => by rw [lowN, List.length_cons, lowN_len a k]
theorem lowN_b (a : Int32) : ∀ k, b256 (lowN a k)
  | 0 => b256_nil
  | k + 1 => b256_cons (Nat.mod_lt _ (by decide)) (lowN_b a k)
theorem holds_put : ∀ (l P : List Nat) (xs : List Int32), holds xs P → P.length + l.length ≤ xs.length → holds (putL xs P.length (l.map nI)) (P ++ l) := by
  intro l
  induction l with
  | nil => intro P xs H _; rw [List.append_nil]; exact H
  | cons c l ih =>
    intro P xs H h
    rw [List.length_cons] at h
    have h1 := holds_app (c := c) H (by omega)
    have h2 := ih (P ++ [c]) _ h1 (by rw [List.length_append, List.length_singleton, List.length_set]; omega)
    rw [List.length_append, List.length_singleton, List.append_assoc] at h2
    exact h2
theorem getD_b256 {P l : List Nat} (h : ∀ j, P.getD j 0 < 256) (hl : b256 l) : ∀ j, (P ++ l).getD j 0 < 256 := b256_get (b256_app (b256_of h) hl)
section SIMPLE
variable {w : ex_W} {B P Q : List Nat}
theorem c_put {a : Int32} {k : Nat} (h : cInv w B P Q) (h1 : 1 ≤ k) (h4 : k ≤ 4) (hc : P.length + k ≤ 124) : ∃ w1, ex_call none 2 [.ref 0, .int a, .int (nI k)] w = some (some (.int 1), w1) ∧ cInv w1 B (P ++ lowN a k) Q ∧ fC w w1 := by
  obtain ⟨b1, b2, us, ts, hb, h0, ⟨R1, H1, l1⟩, ⟨R3, H3, l3⟩, A, ⟨D, pl, ms, S⟩, K, Sp⟩ := h
  have py := x_putYes (X := none) (a := a) h0 R1 h1 h4 hc l1
  have o : ∀ j, j ≠ 1 → j ≠ 2 → (rowW w 1 2 (putL us P.length (lowB a k)) (P.length + k))[j]? = w[j]? := fun j x y => rowW_o x y
  have ll : (P ++ lowN a k).length = P.length + k := by rw [List.length_append, lowN_len]
  refine ⟨_, py, ⟨b1, b2, putL us P.length (lowB a k), ts, hb, (o 0 (by decide) (by decide)).trans h0, ⟨?_, ?_, by rw [putL_len]; exact l1⟩, ⟨row_o R3 (o 3 (by decide) (by decide)) (o 4 (by decide) (by decide)), H3, l3⟩, ma_o A (fun j x y => o j (by omega) (by omega)), ⟨D, pl, ms, sc_o S (fun j x y => o j (by omega) (by omega))⟩, isBl_o K (fun j x y => o j (by omega) (by omega)), isSp_o Sp (fun j x y => o j (by omega) (by omega))⟩, rowW_len, fun j hj => o j (by omega) (by omega)⟩
  · rw [ll]
    exact rowW_is R1 (putL_len _ _ _) (by rw [putL_len]; omega)
  · rw [lowN_B]
    exact holds_put _ _ _ H1 (by rw [lowN_len]; omega)
theorem c_type {a : Int32} {k : Nat} (h : cInv w B P Q) (h1 : 1 ≤ k) (h4 : k ≤ 4) (hc : Q.length + k ≤ 200) (ha : allCh a 0 k) : ∃ w1, ex_call none 5 [.ref 0, .int a, .int (nI k)] w = some (some (.int 1), w1) ∧ cInv w1 B P (Q ++ lowN a k) ∧ fC w w1 := by
  obtain ⟨b1, b2, us, ts, hb, h0, ⟨R1, H1, l1⟩, ⟨R3, H3, l3⟩, A, ⟨D, pl, ms, S⟩, K, Sp⟩ := h
  have py := x_typeYes (X := none) (a := a) h0 R3 h1 h4 hc l3 ha
  have o : ∀ j, j ≠ 3 → j ≠ 4 → (rowW w 3 4 (putL ts Q.length (lowB a k)) (Q.length + k))[j]? = w[j]? := fun j x y => rowW_o x y
  have ll : (Q ++ lowN a k).length = Q.length + k := by rw [List.length_append, lowN_len]
  refine ⟨_, py, ⟨b1, b2, us, putL ts Q.length (lowB a k), hb, (o 0 (by decide) (by decide)).trans h0, ⟨row_o R1 (o 1 (by decide) (by decide)) (o 2 (by decide) (by decide)), H1, l1⟩, ⟨?_, ?_, by rw [putL_len]; exact l3⟩, ma_o A (fun j x y => o j (by omega) (by omega)), ⟨D, pl, ms, sc_o S (fun j x y => o j (by omega) (by omega))⟩, isBl_o K (fun j x y => o j (by omega) (by omega)), isSp_o Sp (fun j x y => o j (by omega) (by omega))⟩, rowW_len, fun j hj => o j (by omega) (by omega)⟩
  · rw [ll]
    exact rowW_is R3 (putL_len _ _ _) (by rw [putL_len]; omega)
  · rw [lowN_B]
    exact holds_put _ _ _ H3 (by rw [lowN_len]; omega)
theorem r_put {a : Int32} {k : Nat} (h : rInv w B P Q) (h1 : 1 ≤ k) (h4 : k ≤ 4) (hc : P.length + k ≤ 124) : ∃ w1, ex_call none 128 [.ref 32, .int a, .int (nI k)] w = some (some (.int 1), w1) ∧ rInv w1 B (P ++ lowN a k) Q ∧ fR w w1 := by
  obtain ⟨⟨m, v, ls, ns, g1, g2, g3, g4, g5, g6, g7, g8⟩, ⟨bs, c1⟩, ⟨ms, c2⟩, ⟨ps, c3, c3l, c3h⟩, ⟨qs, c4⟩, ⟨xs, c5⟩, ⟨ds, c6⟩, ⟨bg, c7⟩, ⟨ln, c8⟩, ⟨ss, c9⟩⟩ := h
  have py := y_putYes (X := none) (a := a) g1 c3 c3l g6 h1 h4 hc
  have o : ∀ j, j ≠ 35 → j ≠ 32 → (mW w 35 (putL ps P.length (lowB a k)) (upd m 5 (nI (P.length + k))) v)[j]? = w[j]? := fun j x y => mW_o x y
  have ll : (P ++ lowN a k).length = P.length + k := by rw [List.length_append, lowN_len]
  refine ⟨_, py, ⟨⟨upd m 5 (nI (P.length + k)), v, ls, ns, mW_m (by decide) g1, g2, g3, rl_o g4 (fun j x y => o j (by omega) (by omega)), g5, by rw [ll]; exact pk_us, g7, g8⟩, ⟨bs, (o 33 (by decide) (by decide)).trans c1.1, c1.2⟩, ⟨ms, (o 34 (by decide) (by decide)).trans c2.1, c2.2⟩, ⟨putL ps P.length (lowB a k), mW_a (by decide) c3, by rw [putL_len]; exact c3l, ?_⟩, ⟨qs, (o 36 (by decide) (by decide)).trans c4.1, c4.2⟩, ⟨xs, (o 37 (by decide) (by decide)).trans c5.1, c5.2⟩, ⟨ds, (o 38 (by decide) (by decide)).trans c6.1, c6.2⟩, ⟨bg, (o 39 (by decide) (by decide)).trans c7.1, c7.2⟩, ⟨ln, (o 40 (by decide) (by decide)).trans c8.1, c8.2⟩, ⟨ss, (o 41 (by decide) (by decide)).trans c9.1, c9.2⟩⟩, mW_len, fun j hj => o j (by omega) (by omega)⟩
  rw [lowN_B]
  exact holds_put _ _ _ c3h (by rw [lowN_len]; omega)
theorem r_type {a : Int32} {k : Nat} (h : rInv w B P Q) (h1 : 1 ≤ k) (h4 : k ≤ 4) (hc : Q.length + k ≤ 200) (ha : allCh a 0 k) : ∃ w1, ex_call none 134 [.ref 32, .int a, .int (nI k)] w = some (some (.int 1), w1) ∧ rInv w1 B P (Q ++ lowN a k) ∧ fR w w1 := by
  obtain ⟨⟨m, v, ls, ns, g1, g2, g3, g4, g5, g6, g7, g8⟩, ⟨bs, c1⟩, ⟨ms, c2⟩, ⟨ps, c3⟩, ⟨qs, c4, c4l, c4h⟩, ⟨xs, c5⟩, ⟨ds, c6⟩, ⟨bg, c7⟩, ⟨ln, c8⟩, ⟨ss, c9⟩⟩ := h
  have py := y_typeYes (X := none) (a := a) g1 c4 c4l g7 h1 h4 hc ha
  have o : ∀ j, j ≠ 36 → j ≠ 32 → (mW w 36 (putL qs Q.length (lowB a k)) (upd m 7 (nI (Q.length + k))) v)[j]? = w[j]? := fun j x y => mW_o x y
  have ll : (Q ++ lowN a k).length = Q.length + k := by rw [List.length_append, lowN_len]
  refine ⟨_, py, ⟨⟨upd m 7 (nI (Q.length + k)), v, ls, ns, mW_m (by decide) g1, g2, g3, rl_o g4 (fun j x y => o j (by omega) (by omega)), g5, g6, by rw [ll]; exact pk_us, g8⟩, ⟨bs, (o 33 (by decide) (by decide)).trans c1.1, c1.2⟩, ⟨ms, (o 34 (by decide) (by decide)).trans c2.1, c2.2⟩, ⟨ps, (o 35 (by decide) (by decide)).trans c3.1, c3.2⟩, ⟨putL qs Q.length (lowB a k), mW_a (by decide) c4, by rw [putL_len]; exact c4l, ?_⟩, ⟨xs, (o 37 (by decide) (by decide)).trans c5.1, c5.2⟩, ⟨ds, (o 38 (by decide) (by decide)).trans c6.1, c6.2⟩, ⟨bg, (o 39 (by decide) (by decide)).trans c7.1, c7.2⟩, ⟨ln, (o 40 (by decide) (by decide)).trans c8.1, c8.2⟩, ⟨ss, (o 41 (by decide) (by decide)).trans c9.1, c9.2⟩⟩, mW_len, fun j hj => o j (by omega) (by omega)⟩
  rw [lowN_B]
  exact holds_put _ _ _ c4h (by rw [lowN_len]; omega)
theorem fits_k {u c : Nat} {b : Int32} (hc : c ≤ 200) (hu : u ≤ 200) (h : fitsIn u c b) : ∃ k : Nat, 1 ≤ k ∧ k ≤ 4 ∧ b = nI k ∧ u + k ≤ c := by
  obtain ⟨h1, h2, h3⟩ := h
  obtain ⟨k, k1, k4, e⟩ := four h1 h2
  refine ⟨k, k1, k4, e, ?_⟩
  rw [e, nI_add] at h3
  by_cases z : u + k ≤ c
  · exact z
  · exact absurd (nI_lt (a := c) (b := u + k) (by omega) (by omega)) h3
theorem s_put (hl : w.length = 46) (hp : pI B P Q) (h1 : cInv w B P Q) (h2 : rInv w B P Q) (a b : Int32) : pr 2 128 [.int a, .int b] w Inv := by
  by_cases c : fitsIn P.length 124 b
  · obtain ⟨k, k1, k4, e, hk⟩ := fits_k (by decide) (by have := hp.2.1; omega) c
    subst e
    refine pr_of (B2 := B) (P2 := P ++ lowN a k) (Q2 := Q) hl h1 h2 ⟨getD_b256 hp.1 (lowN_b a k), by rw [List.length_append, lowN_len]; exact hk, hp.2.2⟩ (c_put h1 k1 k4 hk) (fun w h => r_put h k1 k4 hk)
  · refine pr_of (B2 := B) (P2 := P) (Q2 := Q) (r := 0) hl h1 h2 hp ⟨w, ?_, h1, fC_id⟩ (fun w h => ⟨w, ?_, h, fR_id⟩)
    · obtain ⟨b1, b2, us, ts, hb, h0, ⟨R1, H1, l1⟩, _⟩ := h1
      exact x_putNo (X := none) h0 R1 c
    · obtain ⟨⟨m, v, ls, ns, g1, g2, g3, g4, g5, g6, _⟩, _⟩ := h
      exact y_putNo (X := none) g1 g6 c
theorem allCh_ok {a : Int32} : ∀ (m i j : Nat), allCh a i m → i ≤ j → j < i + m → okCh (chB a j) := by
  intro m
  induction m with
  | zero => intro i j _ h1 h2; omega
  | succ m ih =>
    intro i j h h1 h2
    rw [allCh] at h
    by_cases e : j = i
    · rw [e]; exact h.1
    · exact ih (i + 1) j h.2 (by omega) (by omega)
theorem ch_low {a : Int32} {k : Nat} (ha : allCh a 0 k) : ∀ c, c ∈ lowN a k → c = 10 ∨ 32 ≤ c := by
  have : ∀ n, n ≤ k → ∀ c, c ∈ lowN a n → c = 10 ∨ 32 ≤ c := by
    intro n
    induction n with
    | zero => intro _ c h; cases h
    | succ n ih =>
      intro hn c h
      rw [lowN] at h
      rcases List.mem_cons.mp h with z | z
      · have ok := allCh_ok k 0 n ha (by omega) (by omega)
        have e : chB a n = nI c := by
          rw [z]
          exact pk_and _ 8 rfl
        have lt : c < 256 := by rw [z]; exact Nat.mod_lt _ (by decide)
        rw [e] at ok
        rcases ok with y | y
        · exact Or.inl ((nI_eq (b := 10) (by omega) (by decide)).mp y)
        · right
          by_cases q : 32 ≤ c
          · exact q
          · exact absurd (nI_lt (b := 32) (by omega) (by decide)) y.1
      · exact ih (by omega) c z
  exact this k (Nat.le_refl _)
theorem chOK_app {Q l : List Nat} (h : chOK Q) (hl : ∀ c, c ∈ l → c = 10 ∨ 32 ≤ c) : chOK (Q ++ l) := by
  intro j hj
  rw [List.length_append] at hj
  by_cases c : j < Q.length
  · have := h j c
    rw [List.getD_eq_getElem?_getD, List.getElem?_append_left c, ← List.getD_eq_getElem?_getD]
    exact this
  · rw [List.getD_eq_getElem?_getD, List.getElem?_append_right (by omega), List.getElem?_eq_getElem (by omega)]
    exact hl _ (List.getElem_mem _)
theorem s_type (hl : w.length = 46) (hp : pI B P Q) (h1 : cInv w B P Q) (h2 : rInv w B P Q) (a b : Int32) : pr 5 134 [.int a, .int b] w Inv := by
  by_cases c : fitsIn Q.length 200 b ∧ ∀ k : Nat, b = nI k → k ≤ 4 → allCh a 0 k
  · obtain ⟨k, k1, k4, e, hk⟩ := fits_k (by decide) hp.2.2.2.2.1 c.1
    have ha := c.2 k e k4
    subst e
    refine pr_of (B2 := B) (P2 := P) (Q2 := Q ++ lowN a k) hl h1 h2 ⟨hp.1, hp.2.1, chOK_app hp.2.2.1 (ch_low ha), getD_b256 hp.2.2.2.1 (lowN_b a k), by rw [List.length_append, lowN_len]; exact hk, hp.2.2.2.2.2⟩ (c_type h1 k1 k4 hk ha) (fun w h => r_type h k1 k4 hk ha)
  · refine pr_of (B2 := B) (P2 := P) (Q2 := Q) (r := 0) hl h1 h2 hp ⟨w, ?_, h1, fC_id⟩ (fun w h => ⟨w, ?_, h, fR_id⟩)
    · obtain ⟨b1, b2, us, ts, hb, h0, ⟨R1, H1, l1⟩, ⟨R3, H3, l3⟩, _⟩ := h1
      exact x_typeNo (X := none) h0 R3 c
    · obtain ⟨⟨m, v, ls, ns, g1, g2, g3, g4, g5, g6, g7, _⟩, _⟩ := h
      exact y_typeNo (X := none) g1 g7 c
theorem s_size (hl : w.length = 46) (hp : pI B P Q) (h1 : cInv w B P Q) (h2 : rInv w B P Q) : pr 8 160 [] w Inv := by
  refine pr_of (B2 := B) (P2 := P) (Q2 := Q) (r := nI B.length) hl h1 h2 hp ⟨w, ?_, h1, fC_id⟩ (fun w h => ⟨w, ?_, h, fR_id⟩)
  · obtain ⟨b1, b2, us, ts, hb, h0, _, _, _, _, ⟨us2, ys, zs, K, _⟩, _⟩ := h1
    exact x_size (X := none) h0 K.1 (by omega) K.2.1
  · obtain ⟨⟨m, v, ls, ns, g1, g2, g3, g4, g5, _⟩, _⟩ := h
    rw [← g5]
    exact y_size (X := none) g1
theorem s_length (hl : w.length = 46) (hp : pI B P Q) (h1 : cInv w B P Q) (h2 : rInv w B P Q) : pr 10 162 [] w Inv := by
  refine pr_of (B2 := B) (P2 := P) (Q2 := Q) (r := nI (telT B).length) hl h1 h2 hp ⟨w, ?_, h1, fC_id⟩ (fun w h => ⟨w, ?_, h, fR_id⟩)
  · obtain ⟨b1, b2, us, ts, hb, h0, _, _, _, ⟨D, pl, ms, S⟩, _⟩ := h1
    obtain ⟨xs, R, H, hx⟩ := S.2.2.2.1
    exact x_length (X := none) h0 S.2.2.1 R
  · obtain ⟨⟨m, v, ls, ns, g1, g2, g3, g4, g5, g6, g7, g8⟩, _⟩ := h
    rw [← g8]
    exact y_length (X := none) g1
theorem rowAt_h {xs : List Int32} {B : List Nat} {d i : Int32} (H : holds xs B) (hB : B.length < 2 ^ 20) : rowAt xs B.length d i = rowAt (B.map nI) B.length d i := rowAt_congr (fun j hj => by
  rw [H.2 j hj, List.getD_eq_getElem?_getD, List.getD_eq_getElem?_getD, List.getElem?_map, List.getElem?_eq_getElem hj]
  rfl) (by omega)
theorem s_byteAt (hl : w.length = 46) (hp : pI B P Q) (h1 : cInv w B P Q) (h2 : rInv w B P Q) (a : Int32) : pr 9 161 [.int a] w Inv := by
  have h120 := hp.2.2.2.2.2.1.2.2.1
  refine pr_of (B2 := B) (P2 := P) (Q2 := Q) (r := rowAt (B.map nI) B.length (-1) a) hl h1 h2 hp ⟨w, ?_, h1, fC_id⟩ (fun w h => ⟨w, ?_, h, fR_id⟩)
  · obtain ⟨b1, b2, us, ts, hb, h0, _, _, _, _, ⟨us2, ys, zs, K, _⟩, _⟩ := h1
    rw [← rowAt_h K.2.2.1 (by omega)]
    exact x_byteAt (X := none) h0 K.1 (by omega) K.2.1
  · obtain ⟨⟨m, v, ls, ns, g1, g2, g3, g4, g5, _⟩, ⟨bs, c1, c1l, c1h⟩, _⟩ := h
    rw [← rowAt_h c1h (by omega)]
    exact y_byteAt (X := none) g1 c1 g5 c1h.1 (by omega)
theorem s_at (hl : w.length = 46) (hp : pI B P Q) (h1 : cInv w B P Q) (h2 : rInv w B P Q) (a : Int32) : pr 11 163 [.int a] w Inv := by
  have h808 := hp.2.2.2.2.2.2.2
  refine pr_of (B2 := B) (P2 := P) (Q2 := Q) (r := rowAt ((telT B).map nI) (telT B).length (-1) a) hl h1 h2 hp ⟨w, ?_, h1, fC_id⟩ (fun w h => ⟨w, ?_, h, fR_id⟩)
  · obtain ⟨b1, b2, us, ts, hb, h0, _, _, _, ⟨D, pl, ms, S⟩, _⟩ := h1
    obtain ⟨xs, R, H, hx⟩ := S.2.2.2.1
    rw [← rowAt_h H (by omega)]
    exact x_at (X := none) h0 S.2.2.1 R
  · obtain ⟨⟨m, v, ls, ns, g1, g2, g3, g4, g5, g6, g7, g8⟩, _, _, _, _, ⟨xs, c5, c5h, c5l⟩, _⟩ := h
    rw [← rowAt_h c5h (by omega)]
    exact y_at (X := none) g1 c5 g8 c5h.1 (by omega)
theorem s_count (hl : w.length = 46) (hp : pI B P Q) (h1 : cInv w B P Q) (h2 : rInv w B P Q) (a : Int32) : pr 12 164 [.int a] w Inv := by
  refine pr_of (B2 := B) (P2 := P) (Q2 := Q) (r := cntN B a) hl h1 h2 hp ⟨w, ?_, h1, fC_id⟩ (fun w h => ⟨w, ?_, h, fR_id⟩)
  · obtain ⟨b1, b2, us, ts, hb, h0, _, _, _, _, K, _⟩ := h1
    exact x_count (X := none) h0 (by omega) K
  · obtain ⟨⟨m, v, ls, ns, g1, _⟩, ⟨bs, c1, c1l, c1h⟩, _⟩ := h
    exact y_count (X := none) (m := m) (v := v) ⟨g1, c1, c1l, c1h, hp.2.2.2.2.2.2.1⟩ hp.2.2.2.2.2.1
theorem s_clear (hl : w.length = 46) (hp : pI B P Q) (h1 : cInv w B P Q) (h2 : rInv w B P Q) (a : Int32) : pr 13 167 [.int a] w Inv := by
  refine pr_of (B2 := B) (P2 := P) (Q2 := Q) (r := clrA B a) hl h1 h2 hp ⟨w, ?_, h1, fC_id⟩ (fun w h => ?_)
  · obtain ⟨b1, b2, us, ts, hb, h0, _, _, _, _, K, _⟩ := h1
    exact x_clear (X := none) h0 (by omega) K
  · obtain ⟨⟨m, v, ls, ns, g1, g2, g3, g4, g5⟩, ⟨bs, c1, c1l, c1h⟩, ⟨ms, c2⟩, ⟨ps, c3⟩, ⟨qs, c4⟩, ⟨xs, c5⟩, ⟨ds, c6⟩, ⟨bg, c7, c7l⟩, ⟨ln, c8⟩, ⟨ss, c9⟩⟩ := h
    obtain ⟨zs, z1, z2⟩ := y_clear (X := none) (m := m) (v := v) (a := a) ⟨g1, c1, c1l, c1h, hp.2.2.2.2.2.2.1⟩ hp.2.2.2.2.2.1 c7 c7l
    have o : ∀ j, j ≠ 39 → (w.set 39 (.inr (1, zs)))[j]? = w[j]? := fun j x => List.getElem?_set_ne (Ne.symm x)
    exact ⟨_, z2, ⟨⟨m, v, ls, ns, (o 32 (by decide)).trans g1, g2, g3, rl_o g4 (fun j x y => o j (by omega)), g5⟩, ⟨bs, (o 33 (by decide)).trans c1, c1l, c1h⟩, ⟨ms, (o 34 (by decide)).trans c2.1, c2.2⟩, ⟨ps, (o 35 (by decide)).trans c3.1, c3.2⟩, ⟨qs, (o 36 (by decide)).trans c4.1, c4.2⟩, ⟨xs, (o 37 (by decide)).trans c5.1, c5.2⟩, ⟨ds, (o 38 (by decide)).trans c6.1, c6.2⟩, ⟨zs, ex_set_s c7, z1⟩, ⟨ln, (o 40 (by decide)).trans c8.1, c8.2⟩, ⟨ss, (o 41 (by decide)).trans c9.1, c9.2⟩⟩, List.length_set, fun j hj => o j (by omega)⟩
end SIMPLE
