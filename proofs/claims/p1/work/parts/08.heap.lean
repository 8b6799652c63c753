theorem ex_o0 (j : Nat) : 1000 ≤ 1001 + j := by omega
theorem ex_o1 {h : Nat} (hs : 1001 ≤ h ∧ h < 1001 + nS) : h - 1001 < nS ∧ 1001 + (h - 1001) = h ∧ 2001 + (h - 1001) = h + 1000 ∧ 1000 ≤ h ∧ 1000 ≤ h + 1000 := by omega
theorem ex_o2 {a : Nat} (hs : 2001 ≤ a ∧ a < 2001 + nS) : a - 2001 < nS ∧ 2001 + (a - 2001) = a ∧ 1000 ≤ a := by omega
/-! fields, arrays, new cells, the pool's numbers and texts -/
section EXH
variable {p : Program} {l : Launch} {e : Env} {R : Room} {s : State} {m : MethodId} {args : Array Value} {below : List Frame} {meth : Method} {c : Code} {Q : State → Prop} {D : va_G} {cI cZ : ClassId} {sa : Nat → Nat} {A : Nat → Prop} {mi mc ms n0 : Nat} {w9 : ex_W} {pc : Nat} {L : ex_L} {st : List Value} {w : ex_W} {X : Option (List Int32)} {pc1 : Nat} {L1 : ex_L} {st1 : List Value} {w1 : ex_W}
theorem ex_i_ldc {idx : Nat} (F : ex_F mi p s m meth c args) (K : ex_K D cI cZ sa X A s) (hd : decode (kC mi) pc = .ok (.ldc idx, 2)) (ha : ex_do X mi pc (.ldc idx) L st w = some (.inl (pc1, L1, st1, w1))) (G1 : ex_G p l e R s m args below meth c Q D cI cZ sa A mi mc ms n0 w9 pc1 L1 st1 w1) : ex_G p l e R s m args below meth c Q D cI cZ sa A mi mc ms n0 w9 pc L st w := by
  obtain ⟨hx, hb, hml, hr, hlk, hown, hts, hin⟩ := F
  obtain ⟨hK, hNW, hSt, hSR, hZ, hZ2, hXs⟩ := K
  simp only [ex_do] at ha
  split at ha
  next v hv =>
    cases ha
    exact ex_top_s G1 (fun n h => List.forall_mem_cons.mpr ⟨trivial, h⟩) fun ad H locs cells slots ls h => lv_ldc hx hb hown (hts _ (kt_I hv)) hd h
  next =>
    split at ha
    next j hj =>
      cases ha
      obtain ⟨hjn, tx, hq⟩ := kt_S hj
      intro ad H locs cells slots ls M
      obtain ⟨hl, k1, k2, kw, hP, hD, hS, c1, c2, sp, hn0⟩ := M
      refine va_ldcS (tx := tx) hx hb hown (q := ad (1001 + j)) ?_ hd (G1 ad H locs cells slots ls ⟨hl, k1, List.forall_mem_cons.mpr ⟨Or.inr (ex_o0 j), k2⟩, kw, hP, hD, hS, c1, c2, sp, hn0⟩)
      rw [sp (1001 + j) (Or.inr (ex_o0 j))]
      have hh : vk_R (kOn (kO mi)) idx tx (sa (1001 + j)) s := hSR (kOn (kO mi), idx, tx, j) hq
      exact hh
    next => cases ha
theorem ex_i_ldc2 {idx : Nat} (F : ex_F mi p s m meth c args) (K : ex_K D cI cZ sa X A s) (hd : decode (kC mi) pc = .ok (.ldc2_w idx, 3)) (ha : ex_do X mi pc (.ldc2_w idx) L st w = some (.inl (pc1, L1, st1, w1))) (G1 : ex_G p l e R s m args below meth c Q D cI cZ sa A mi mc ms n0 w9 pc1 L1 st1 w1) : ex_G p l e R s m args below meth c Q D cI cZ sa A mi mc ms n0 w9 pc L st w := by
  obtain ⟨hx, hb, hml, hr, hlk, hown, hts, hin⟩ := F
  obtain ⟨hK, hNW, hSt, hSR, hZ, hZ2, hXs⟩ := K
  simp only [ex_do] at ha
  split at ha
  next v hv =>
    cases ha
    exact ex_top_s G1 (fun n h => List.forall_mem_cons.mpr ⟨trivial, h⟩) fun ad H locs cells slots ls h => lv_ldc2 hx hb hown (hts _ (kt_J hv)) hd h
  next => cases ha
theorem ex_i_getstatic {idx : Nat} (F : ex_F mi p s m meth c args) (K : ex_K D cI cZ sa X A s) (hd : decode (kC mi) pc = .ok (.getstatic idx, 3)) (ha : ex_do X mi pc (.getstatic idx) L st w = some (.inl (pc1, L1, st1, w1))) (G1 : ex_G p l e R s m args below meth c Q D cI cZ sa A mi mc ms n0 w9 pc1 L1 st1 w1) : ex_G p l e R s m args below meth c Q D cI cZ sa A mi mc ms n0 w9 pc L st w := by
  obtain ⟨hx, hb, hml, hr, hlk, hown, hts, hin⟩ := F
  obtain ⟨hK, hNW, hSt, hSR, hZ, hZ2, hXs⟩ := K
  simp only [ex_do] at ha
  split at ha
  next hz =>
    cases ha
    intro ad H locs cells slots ls M
    obtain ⟨hl, k1, k2, kw, hP, hD, hS, c1, c2, sp, hn0⟩ := M
    exact va_gets hx hb hZ hS hown (hts _ ((kt_Z hz).1 rfl)) (fun _ z => z) hd (G1 ad H locs cells slots ls ⟨hl, k1, List.forall_mem_cons.mpr ⟨trivial, k2⟩, kw, hP, hD, hS, c1, c2, sp, hn0⟩)
  next z hn hz =>
    cases ha
    intro ad H locs cells slots ls M
    obtain ⟨hl, k1, k2, kw, hP, hD, hS, c1, c2, sp, hn0⟩ := M
    have hz0 : ¬ z = 0 := fun q => hn (q ▸ rfl)
    refine va_gets hx hb hZ2 hS hown (hts _ ((kt_Z hz).2 hz0)) (fun _ z => z) hd ?_
    rw [← sp 3000 (Or.inr (by decide))]
    exact G1 ad H locs cells slots ls ⟨hl, k1, List.forall_mem_cons.mpr ⟨trivial, k2⟩, kw, hP, hD, hS, c1, c2, sp, hn0⟩
  next => cases ha
theorem ex_gf_s {h ci k : Nat} {v : Value} (hg : ex_gf w h ci k = some v) : ∃ fs, w[h]? = some (.inl (ci, fs)) ∧ fs[k]? = some v := by
  unfold ex_gf at hg
  split at hg
  next cj fs hw =>
    split at hg
    next hc =>
      subst hc
      exact ⟨fs, hw, hg⟩
    next => cases hg
  next => cases hg
theorem ex_pf_s {h ci k : Nat} {v : Value} {w2 : ex_W} (hg : ex_pf w h ci k v = some w2) : ∃ fs, w[h]? = some (.inl (ci, fs)) ∧ k < fs.length ∧ w2 = w.set h (.inl (ci, fs.set k v)) := by
  unfold ex_pf at hg
  split at hg
  next cj fs hw =>
    split at hg
    next hc =>
      obtain ⟨hc, hk⟩ := hc
      subst hc
      cases hg
      exact ⟨fs, hw, hk, rfl⟩
    next => cases hg
  next => cases hg
theorem ex_okf {h ci k : Nat} {v : Value} {fs : List Value} (kw : ex_okw w) (hw : w[h]? = some (.inl (ci, fs))) (hv : fs[k]? = some v) : ex_ok w.length v := kw _ (List.mem_of_getElem? hw) v (List.mem_of_getElem? hv)
theorem ex_i_getfield {idx : Nat} (F : ex_F mi p s m meth c args) (K : ex_K D cI cZ sa X A s) (hd : decode (kC mi) pc = .ok (.getfield idx, 3)) (ha : ex_do X mi pc (.getfield idx) L st w = some (.inl (pc1, L1, st1, w1))) (G1 : ex_G p l e R s m args below meth c Q D cI cZ sa A mi mc ms n0 w9 pc1 L1 st1 w1) : ex_G p l e R s m args below meth c Q D cI cZ sa A mi mc ms n0 w9 pc L st w := by
  obtain ⟨hx, hb, hml, hr, hlk, hown, hts, hin⟩ := F
  obtain ⟨hK, hNW, hSt, hSR, hZ, hZ2, hXs⟩ := K
  simp only [ex_do] at ha
  split at ha
  next h r =>
    split at ha
    next hlt =>
      split at ha
      next ci k nest hF =>
        split at ha
        next v hg =>
          cases ha
          obtain ⟨fs, hw, hv⟩ := ex_gf_s hg
          obtain ⟨C, T, N, hc, hk, h1, h2⟩ := kt_F hF
          have hC := kt_C hc
          intro ad H locs cells slots ls M
          obtain ⟨hl, k1, k2, kw, hP, hD, hS, c1, c2, sp, hn0⟩ := M
          have GG := G1 ad H locs cells slots ls ⟨hl, k1, List.forall_mem_cons.mpr ⟨ex_okf kw hw hv, (List.forall_mem_cons.mp k2).2⟩, kw, hP, hD, hS, c1, c2, sp, hn0⟩
          have he := ex_m_get (cI := cI) (cZ := cZ) (ad := ad) hw
          have hv1 : (fs.map (ex_v ad))[k]? = some (ex_v ad v) := by rw [List.getElem?_map, hv]; rfl
          cases nest with
          | false => exact va_get hx hb hts hC.1 hown hK hP h he hc k hk (hts _ (h1 rfl)) (fun _ z => z) hv1 hd GG
          | true =>
            obtain ⟨host, hh⟩ := h2 rfl
            exact va_getN hx hb hts hC.1 hown hK hP h he hc k hk (va_Nw.use rfl (hNW _ hh)) (fun _ z => z) hv1 hd GG
        next => cases ha
      next => cases ha
    next hlt =>
      split at ha
      next hs =>
        split at ha
        next hG =>
          cases ha
          intro ad H locs cells slots ls M
          obtain ⟨hl, k1, k2, kw, hP, hD, hS, c1, c2, sp, hn0⟩ := M
          obtain ⟨hj, e1, e2, o1, o2⟩ := ex_o1 hs
          have q1 : ad h = sa (1001 + (h - 1001)) := by rw [e1]; exact sp h (Or.inr o1)
          have q2 : ad (h + 1000) = sa (2001 + (h - 1001)) := by rw [e2]; exact sp (h + 1000) (Or.inr o2)
          have GG := G1 ad H locs cells slots ls ⟨hl, k1, List.forall_mem_cons.mpr ⟨Or.inr o2, (List.forall_mem_cons.mp k2).2⟩, kw, hP, hD, hS, c1, c2, sp, hn0⟩
          have hE := (hSt (h - 1001) hj).2.2.1
          rw [← q1, ← q2] at hE
          exact vk_getf hx hb hE hS hown (hts _ ((kt_G hG).1 rfl)) (fun _ z => z) hd GG
        next hG =>
          cases ha
          intro ad H locs cells slots ls M
          obtain ⟨hl, k1, k2, kw, hP, hD, hS, c1, c2, sp, hn0⟩ := M
          obtain ⟨hj, e1, e2, o1, o2⟩ := ex_o1 hs
          have q1 : ad h = sa (1001 + (h - 1001)) := by rw [e1]; exact sp h (Or.inr o1)
          have GG := G1 ad H locs cells slots ls ⟨hl, k1, List.forall_mem_cons.mpr ⟨trivial, (List.forall_mem_cons.mp k2).2⟩, kw, hP, hD, hS, c1, c2, sp, hn0⟩
          have hE := (hSt (h - 1001) hj).2.1
          rw [← q1] at hE
          exact vk_getf hx hb hE hS hown (hts _ ((kt_G hG).2 rfl)) (fun _ z => z) hd GG
        next => cases ha
      next => cases ha
  next => cases ha
theorem ex_nar {ad : Nat → Nat} {ty : FieldType} {v : Value} (h : narrow ty v = v) : narrow ty (ex_v ad v) = ex_v ad v := by
  cases v with
  | ref a => cases ty <;> rfl
  | retAddr a =>
    show narrow ty (ex_fm (ad 3000)) = ex_fm (ad 3000)
    cases (ad 3000) <;> cases ty <;> rfl
  | _ => exact h
theorem ex_fit {ad : Nat → Nat} {ty : FieldType} {v : Value} (h : fits ty v = true) : fits ty (ex_v ad v) = true := by
  cases v with
  | ref a => cases ty <;> first | exact h | rfl
  | retAddr a => cases ty <;> cases h
  | _ => exact h
theorem ex_i_putfield {idx : Nat} (F : ex_F mi p s m meth c args) (K : ex_K D cI cZ sa X A s) (hd : decode (kC mi) pc = .ok (.putfield idx, 3)) (ha : ex_do X mi pc (.putfield idx) L st w = some (.inl (pc1, L1, st1, w1))) (G1 : ex_G p l e R s m args below meth c Q D cI cZ sa A mi mc ms n0 w9 pc1 L1 st1 w1) : ex_G p l e R s m args below meth c Q D cI cZ sa A mi mc ms n0 w9 pc L st w := by
  obtain ⟨hx, hb, hml, hr, hlk, hown, hts, hin⟩ := F
  obtain ⟨hK, hNW, hSt, hSR, hZ, hZ2, hXs⟩ := K
  simp only [ex_do] at ha
  split at ha
  next v h r =>
    split at ha
    next hlt =>
      split at ha
      next ci k nest hF =>
        split at ha
        next hcond =>
          obtain ⟨hna, hfi, hfin⟩ := hcond
          split at ha
          next w2 hg =>
            cases ha
            obtain ⟨fs, hw, hkl, rfl⟩ := ex_pf_s hg
            obtain ⟨C, T, N, hc, hk, h1, h2⟩ := kt_F hF
            obtain ⟨hws, hty, hnm, hq, -⟩ := kt_C hc
            intro ad H locs cells slots ls M
            obtain ⟨hl, k1, k2, kw, hP, hD, hS, c1, c2, sp, hn0⟩ := M
            obtain ⟨kv, k3⟩ := List.forall_mem_cons.mp k2
            have k4 := (List.forall_mem_cons.mp k3).2
            have he := ex_m_get (cI := cI) (cZ := cZ) (ad := ad) hw
            have hkl1 : k < (fs.map (ex_v ad)).length := by rw [List.length_map]; exact hkl
            have es : (ex_m cI cZ ad w).set h (ad h, Sum.inr (ci, (fs.map (ex_v ad)).set k (ex_v ad v))) = ex_m cI cZ ad (w.set h (.inl (ci, fs.set k v))) := by
              rw [← ex_m_set]
              show _ = (ex_m cI cZ ad w).set h (ad h, Sum.inr (ci, (fs.set k v).map (ex_v ad)))
              rw [List.map_set]
            have ho : ex_okw (w.set h (.inl (ci, fs.set k v))) := ex_okw_set kw (fun u hu => by
              rcases List.mem_or_eq_of_mem_set hu with z | z
              · exact kw _ (List.mem_of_getElem? hw) u z
              · rw [z]; exact kv)
            have hz : ex_sl (w.set h (.inl (ci, fs.set k v))) = ex_sl w := ex_sl_set hw (by simp [ex_sz])
            have GG : ∀ (H1 : Heap) (locs1 : List Loc), va_P D kCl ((ex_m cI cZ ad w).set h (ad h, Sum.inr (ci, (fs.map (ex_v ad)).set k (ex_v ad v)))) H1 → va_D A ((ex_m cI cZ ad w).set h (ad h, Sum.inr (ci, (fs.map (ex_v ad)).set k (ex_v ad v)))) → va_S A s.heap H1 locs1 → W p l e R s m args below meth c H1 locs1 cells slots Q (F0 m (pc + 3) ls (st1.map (ex_v ad))) := by
              intro H1 locs1 hP1 hD1 hS1
              rw [es] at hP1 hD1
              refine G1 ad H1 locs1 cells slots ls ⟨hl, ?_, ?_, ho, hP1, hD1, hS1, ?_, ?_, sp, by rw [List.length_set]; exact hn0⟩
              · rw [List.length_set]; exact k1
              · rw [List.length_set]; exact k4
              · rw [List.length_set]; exact c1
              · rw [hz]; exact c2
            cases hqf : kQ ci k with
            | false =>
              have hT : (T k).2.2.2 = false := (hq k hk).1.trans hqf
              cases nest with
              | false => exact va_put hx hb hts hws (kT ci) hty hnm hown hK hP hD hS h he hc k hk (hts _ (h1 rfl)) (fun _ z => z) hT (hty k hk) (ex_nar hna) (ex_fit hfi) hkl1 hd GG
              | true =>
                obtain ⟨host, hh⟩ := h2 rfl
                exact va_putN hx hb hts hws (kT ci) hty hnm hown hK hP hD hS h he hc k hk (va_Nw.use rfl (hNW _ hh)) (fun _ z => z) hT (hty k hk) (ex_nar hna) (ex_fit hfi) hkl1 hd GG
            | true =>
              obtain ⟨f1, f2, f3⟩ := hfin hqf
              have hT : (T k).2.2.2 = true := (hq k hk).1.trans hqf
              have hdecl : (T k).1 = kOn (kO mi) := by rw [(hq k hk).2, f3]
              exact va_putF hx hb hts hws (kT ci) hty hnm hown hK hP hD hS h he hc k hk (hts _ (h1 f2)) (fun _ z => z) hT (hin f1) hdecl (hty k hk) (ex_nar hna) (ex_fit hfi) hkl1 hd GG
          next => cases ha
        next => cases ha
      next => cases ha
    next => cases ha
  next => cases ha
theorem ex_up_ext {q : Nat} {ad : Nat → Nat} (hlt : w.length < 1000) : ex_ext w.length ad (va_up ad w.length q) := by
  intro k hk
  unfold va_up
  rw [if_neg (by omega)]
theorem ex_sp_up {q n : Nat} {ad : Nat → Nat} (hlt : n < 1000) (hn : n0 ≤ n) (sp : ex_sp n0 sa ad) : ex_sp n0 sa (va_up ad n q) := by
  intro k hk
  unfold va_up
  rw [if_neg (by omega)]
  exact sp k hk
theorem ex_i_new {idx : Nat} (F : ex_F mi p s m meth c args) (K : ex_K D cI cZ sa X A s) (hA : ∀ q, s.heap.size ≤ q → A q) (hmc : mc ≤ R.cells) (hms : ms ≤ R.slots) (hle : w1.length ≤ w9.length ∧ ex_sl w1 ≤ ex_sl w9) (hd : decode (kC mi) pc = .ok (.new idx, 3)) (ha : ex_do X mi pc (.new idx) L st w = some (.inl (pc1, L1, st1, w1))) (G1 : ex_G p l e R s m args below meth c Q D cI cZ sa A mi mc ms n0 w9 pc1 L1 st1 w1) : ex_G p l e R s m args below meth c Q D cI cZ sa A mi mc ms n0 w9 pc L st w := by
  obtain ⟨hx, hb, hml, hr, hlk, hown, hts, hin⟩ := F
  obtain ⟨hK, hNW, hSt, hSR, hZ, hZ2, hXs⟩ := K
  simp only [ex_do] at ha
  split at ha
  next ci hN =>
    split at ha
    next hlt =>
      cases ha
      obtain ⟨C, T, N, hc, h1, h2, h3⟩ := kt_N hN
      obtain ⟨hws, hty, hnm, hq, hB, hdv, hBo⟩ := kt_C hc
      intro ad H locs cells slots ls M
      obtain ⟨hl, k1, k2, kw, hP, hD, hS, c1, c2, sp, hn0⟩ := M
      have hs1 : ex_sl (w ++ [Sum.inl (ci, kB ci)]) = ex_sl w + N := by rw [ex_sl_push]; show _ + (kB ci).length = _; rw [hB]
      rw [hs1, List.length_append] at hle
      simp only [List.length_singleton] at hle
      refine va_new (fs := kB ci) hx hb hts hws (kT ci) hty hown (hts _ h1) (hts _ h2) (hts _ h3) hK hP hD hS hA hc hdv (by omega) (by omega) hd fun q H1 hP1 hD1 hS1 => ?_
      have hext : ex_ext w.length ad (va_up ad w.length q) := ex_up_ext hlt
      have e0 : va_up ad w.length q w.length = q := by unfold va_up; rw [if_pos rfl]
      have ec : ∀ a2 : Nat → Nat, ex_c cI cZ a2 (.inl (ci, kB ci)) = Sum.inr (ci, kB ci) := by
        intro a2
        show Sum.inr (ci, (kB ci).map (ex_v a2)) = _
        rw [List.map_congr_left (fun v hv => (hBo v hv).2 a2), List.map_id']
      have em := ex_m_push (cI := cI) (cZ := cZ) (c := .inl (ci, kB ci)) hext kw ((ec _).trans (ec _).symm)
      rw [e0, ec] at em
      rw [em] at hP1 hD1
      have GG := G1 (va_up ad w.length q) H1 locs (cells + 1) (slots + N) ls ⟨by rw [ex_mapq_ext hext k1]; exact hl, ?_, ?_, ex_okw_push kw (fun v hv => ex_ok_mono (Nat.zero_le _) (hBo v hv).1), hP1, hD1, hS1, ?_, ?_, ex_sp_up hlt hn0 sp, by rw [List.length_append]; omega⟩
      · have eg : (Value.ref w.length :: st).map (ex_v (va_up ad w.length q)) = .ref q :: st.map (ex_v ad) := by
          rw [List.map_cons, ex_map_ext hext k2]
          show Value.ref (va_up ad w.length q w.length) :: _ = _
          rw [e0]
        rw [eg] at GG
        exact GG
      · intro x hx2
        rw [List.length_append]
        exact ex_ok_mono (by omega) (k1 x hx2)
      · intro v hv
        rw [List.length_append]
        rcases List.mem_cons.mp hv with rfl | z
        · exact Or.inl (by simp)
        · exact ex_ok_mono (by omega) (k2 v z)
      · rw [List.length_append]; simp only [List.length_singleton]; omega
      · rw [hs1]; omega
    next => cases ha
  next => cases ha
theorem ex_i_newarrI (F : ex_F mi p s m meth c args) (K : ex_K D cI cZ sa X A s) (hA : ∀ q, s.heap.size ≤ q → A q) (hmc : mc ≤ R.cells) (hms : ms ≤ R.slots) (hle : w1.length ≤ w9.length ∧ ex_sl w1 ≤ ex_sl w9) (hd : decode (kC mi) pc = .ok (.newarray .int, 2)) (ha : ex_do X mi pc (.newarray .int) L st w = some (.inl (pc1, L1, st1, w1))) (G1 : ex_G p l e R s m args below meth c Q D cI cZ sa A mi mc ms n0 w9 pc1 L1 st1 w1) : ex_G p l e R s m args below meth c Q D cI cZ sa A mi mc ms n0 w9 pc L st w := by
  obtain ⟨hx, hb, hml, hr, hlk, hown, hts, hin⟩ := F
  obtain ⟨hK, hNW, hSt, hSR, hZ, hZ2, hXs⟩ := K
  simp only [ex_do] at ha
  split at ha
  next n r =>
    split at ha
    next hcond =>
      obtain ⟨hn, hbig, hlt⟩ := hcond
      cases ha
      intro ad H locs cells slots ls M
      obtain ⟨hl, k1, k2, kw, hP, hD, hS, c1, c2, sp, hn0⟩ := M
      have hs1 : ex_sl (w ++ [Sum.inr (0, List.replicate n.toNatClampNeg (0 : Int32))]) = ex_sl w + n.toNatClampNeg := by rw [ex_sl_push]; show _ + (List.replicate n.toNatClampNeg (0 : Int32)).length = _; rw [List.length_replicate]
      rw [hs1, List.length_append] at hle
      simp only [List.length_singleton] at hle
      have k4 := (List.forall_mem_cons.mp k2).2
      have hc8 : componentBytes .int ≤ 8 := by decide
      have hcb : n.toNatClampNeg * componentBytes .int ≤ 536870912 := Nat.le_trans (Nat.mul_le_mul hbig hc8) (by decide)
      refine va_newa (a0 := (n.toNatClampNeg, .inl (fun j => (List.replicate n.toNatClampNeg (0 : Int32)).getD j 0))) hx hb (hts _ kt_A0) rfl hK hP hD hS hA ?_ hn rfl hcb (by omega) (by omega) hd fun q cA H1 hK1 hP1 hD1 hS1 => ?_
      · intro cA
        unfold vp_cell
        refine congrArg (fun f => arrV cA n.toNatClampNeg f) (funext fun j => ?_)
        have : (List.replicate n.toNatClampNeg (0 : Int32)).getD j 0 = 0 := by
          rw [List.getD_eq_getElem?_getD, List.getElem?_replicate]
          split <;> rfl
        exact (congrArg Value.int this).trans rfl
      have hcA : cA = cI := by
        have z1 := (hK1.2 2 (cA, .int) rfl).2
        have z2 := (hK.2 0 (cI, .int) rfl).2
        exact Option.some.inj (z1.symm.trans z2)
      subst hcA
      have hext : ex_ext w.length ad (va_up ad w.length q) := ex_up_ext hlt
      have e0 : va_up ad w.length q w.length = q := by unfold va_up; rw [if_pos rfl]
      have em := ex_m_push (cI := cA) (cZ := cZ) (ad := ad) (c := .inr (0, List.replicate n.toNatClampNeg (0 : Int32))) hext kw rfl
      rw [e0] at em
      have ec : ex_c cA cZ ad (.inr (0, List.replicate n.toNatClampNeg (0 : Int32))) = Sum.inl (cA, n.toNatClampNeg, .inl (fun j => (List.replicate n.toNatClampNeg (0 : Int32)).getD j 0)) := by
        unfold ex_c
        simp
      rw [ec] at em
      rw [em] at hP1 hD1
      have GG := G1 (va_up ad w.length q) H1 locs (cells + 1) (slots + n.toNatClampNeg) ls ⟨by rw [ex_mapq_ext hext k1]; exact hl, ?_, ?_, ex_okw_push kw trivial, hP1, hD1, hS1, ?_, ?_, ex_sp_up hlt hn0 sp, by rw [List.length_append]; omega⟩
      · have eg : (Value.ref w.length :: r).map (ex_v (va_up ad w.length q)) = .ref q :: r.map (ex_v ad) := by
          rw [List.map_cons, ex_map_ext hext k4]
          show Value.ref (va_up ad w.length q w.length) :: _ = _
          rw [e0]
        rw [eg] at GG
        exact GG
      · intro x hx2
        rw [List.length_append]
        exact ex_ok_mono (by omega) (k1 x hx2)
      · intro v hv
        rw [List.length_append]
        rcases List.mem_cons.mp hv with rfl | z
        · exact Or.inl (by simp)
        · exact ex_ok_mono (by omega) (k4 v z)
      · rw [List.length_append]; simp only [List.length_singleton]; omega
      · rw [hs1]; omega
    next => cases ha
  next => cases ha
theorem ex_i_newarrZ (F : ex_F mi p s m meth c args) (K : ex_K D cI cZ sa X A s) (hA : ∀ q, s.heap.size ≤ q → A q) (hmc : mc ≤ R.cells) (hms : ms ≤ R.slots) (hle : w1.length ≤ w9.length ∧ ex_sl w1 ≤ ex_sl w9) (hd : decode (kC mi) pc = .ok (.newarray .boolean, 2)) (ha : ex_do X mi pc (.newarray .boolean) L st w = some (.inl (pc1, L1, st1, w1))) (G1 : ex_G p l e R s m args below meth c Q D cI cZ sa A mi mc ms n0 w9 pc1 L1 st1 w1) : ex_G p l e R s m args below meth c Q D cI cZ sa A mi mc ms n0 w9 pc L st w := by
  obtain ⟨hx, hb, hml, hr, hlk, hown, hts, hin⟩ := F
  obtain ⟨hK, hNW, hSt, hSR, hZ, hZ2, hXs⟩ := K
  simp only [ex_do] at ha
  split at ha
  next n r =>
    split at ha
    next hcond =>
      obtain ⟨hn, hbig, hlt⟩ := hcond
      cases ha
      intro ad H locs cells slots ls M
      obtain ⟨hl, k1, k2, kw, hP, hD, hS, c1, c2, sp, hn0⟩ := M
      have hs1 : ex_sl (w ++ [Sum.inr (1, List.replicate n.toNatClampNeg (0 : Int32))]) = ex_sl w + n.toNatClampNeg := by rw [ex_sl_push]; show _ + (List.replicate n.toNatClampNeg (0 : Int32)).length = _; rw [List.length_replicate]
      rw [hs1, List.length_append] at hle
      simp only [List.length_singleton] at hle
      have k4 := (List.forall_mem_cons.mp k2).2
      have hc8 : componentBytes .boolean ≤ 8 := by decide
      have hcb : n.toNatClampNeg * componentBytes .boolean ≤ 536870912 := Nat.le_trans (Nat.mul_le_mul hbig hc8) (by decide)
      refine va_newa (a0 := (n.toNatClampNeg, .inl (fun j => (List.replicate n.toNatClampNeg (0 : Int32)).getD j 0))) hx hb (hts _ kt_A1) rfl hK hP hD hS hA ?_ hn rfl hcb (by omega) (by omega) hd fun q cA H1 hK1 hP1 hD1 hS1 => ?_
      · intro cA
        unfold vp_cell
        refine congrArg (fun f => arrV cA n.toNatClampNeg f) (funext fun j => ?_)
        have : (List.replicate n.toNatClampNeg (0 : Int32)).getD j 0 = 0 := by
          rw [List.getD_eq_getElem?_getD, List.getElem?_replicate]
          split <;> rfl
        exact (congrArg Value.int this).trans rfl
      have hcA : cA = cZ := by
        have z1 := (hK1.2 2 (cA, .boolean) rfl).2
        have z2 := (hK.2 1 (cZ, .boolean) rfl).2
        exact Option.some.inj (z1.symm.trans z2)
      subst hcA
      have hext : ex_ext w.length ad (va_up ad w.length q) := ex_up_ext hlt
      have e0 : va_up ad w.length q w.length = q := by unfold va_up; rw [if_pos rfl]
      have em := ex_m_push (cI := cI) (cZ := cA) (ad := ad) (c := .inr (1, List.replicate n.toNatClampNeg (0 : Int32))) hext kw rfl
      rw [e0] at em
      have ec : ex_c cI cA ad (.inr (1, List.replicate n.toNatClampNeg (0 : Int32))) = Sum.inl (cA, n.toNatClampNeg, .inl (fun j => (List.replicate n.toNatClampNeg (0 : Int32)).getD j 0)) := by
        unfold ex_c
        simp
      rw [ec] at em
      rw [em] at hP1 hD1
      have GG := G1 (va_up ad w.length q) H1 locs (cells + 1) (slots + n.toNatClampNeg) ls ⟨by rw [ex_mapq_ext hext k1]; exact hl, ?_, ?_, ex_okw_push kw trivial, hP1, hD1, hS1, ?_, ?_, ex_sp_up hlt hn0 sp, by rw [List.length_append]; omega⟩
      · have eg : (Value.ref w.length :: r).map (ex_v (va_up ad w.length q)) = .ref q :: r.map (ex_v ad) := by
          rw [List.map_cons, ex_map_ext hext k4]
          show Value.ref (va_up ad w.length q w.length) :: _ = _
          rw [e0]
        rw [eg] at GG
        exact GG
      · intro x hx2
        rw [List.length_append]
        exact ex_ok_mono (by omega) (k1 x hx2)
      · intro v hv
        rw [List.length_append]
        rcases List.mem_cons.mp hv with rfl | z
        · exact Or.inl (by simp)
        · exact ex_ok_mono (by omega) (k4 v z)
      · rw [List.length_append]; simp only [List.length_singleton]; omega
      · rw [hs1]; omega
    next => cases ha
  next => cases ha
theorem ex_al_s {a kd : Nat} {i v : Int32} (hg : ex_al w a kd i = some v) : ∃ xs, w[a]? = some (.inr (kd, xs)) ∧ ¬ i < 0 ∧ xs[i.toNatClampNeg]? = some v := by
  unfold ex_al at hg
  split at hg
  next kj xs hw =>
    split at hg
    next hc =>
      obtain ⟨hc, hi⟩ := hc
      subst hc
      exact ⟨xs, hw, hi, hg⟩
    next => cases hg
  next => cases hg
theorem ex_as_s {a kd : Nat} {i x : Int32} {w2 : ex_W} (hg : ex_as w a kd i x = some w2) : ∃ xs, w[a]? = some (.inr (kd, xs)) ∧ ¬ i < 0 ∧ i.toNatClampNeg < xs.length ∧ w2 = w.set a (.inr (kd, xs.set i.toNatClampNeg x)) := by
  unfold ex_as at hg
  split at hg
  next kj xs hw =>
    split at hg
    next hc =>
      obtain ⟨hc, hi, hl⟩ := hc
      subst hc
      cases hg
      exact ⟨xs, hw, hi, hl, rfl⟩
    next => cases hg
  next => cases hg
theorem ex_an_s {a : Nat} {v : Int32} (hg : ex_an w a = some v) : ∃ kd xs, w[a]? = some (.inr (kd, xs)) ∧ v = Int32.ofNat xs.length := by
  unfold ex_an at hg
  split at hg
  next kj xs hw =>
    cases hg
    exact ⟨kj, xs, hw, rfl⟩
  next => cases hg
theorem ex_in {i : Int32} {n : Nat} (h1 : ¬ i < 0) (h2 : i.toNatClampNeg < n) : vp_in i n := fun z => by
  rcases z with z | z
  · exact h1 z
  · omega
theorem ex_getD {xs : List Int32} {k : Nat} {v : Int32} (h : xs[k]? = some v) : xs.getD k 0 = v ∧ k < xs.length := ⟨by rw [List.getD_eq_getElem?_getD, h]; rfl, (List.getElem?_eq_some_iff.mp h).1⟩
theorem ex_i_arraylength (F : ex_F mi p s m meth c args) (K : ex_K D cI cZ sa X A s) (hd : decode (kC mi) pc = .ok (.arraylength, 1)) (ha : ex_do X mi pc (.arraylength) L st w = some (.inl (pc1, L1, st1, w1))) (G1 : ex_G p l e R s m args below meth c Q D cI cZ sa A mi mc ms n0 w9 pc1 L1 st1 w1) : ex_G p l e R s m args below meth c Q D cI cZ sa A mi mc ms n0 w9 pc L st w := by
  obtain ⟨hx, hb, hml, hr, hlk, hown, hts, hin⟩ := F
  obtain ⟨hK, hNW, hSt, hSR, hZ, hZ2, hXs⟩ := K
  simp only [ex_do] at ha
  split at ha
  next a r =>
    split at ha
    next hlt =>
      split at ha
      next v hg =>
        cases ha
        obtain ⟨kd, xs, hw, rfl⟩ := ex_an_s hg
        intro ad H locs cells slots ls M
        obtain ⟨hl, k1, k2, kw, hP, hD, hS, c1, c2, sp, hn0⟩ := M
        have GG := G1 ad H locs cells slots ls ⟨hl, k1, List.forall_mem_cons.mpr ⟨trivial, (List.forall_mem_cons.mp k2).2⟩, kw, hP, hD, hS, c1, c2, sp, hn0⟩
        have he := ex_m_get (cI := cI) (cZ := cZ) (ad := ad) hw
        unfold ex_c at he
        by_cases hk : kd = 0
        · simp only [hk, if_true] at he
          exact va_alen hx hb hK hP a 0 he (ty := .int) rfl rfl hd GG
        · simp only [hk, if_false] at he
          exact va_alen hx hb hK hP a 1 he (ty := .boolean) rfl rfl hd GG
      next => cases ha
    next hlt =>
      split at ha
      next ha2 =>
        split at ha
        next xs =>
          cases ha
          subst ha2
          intro ad H locs cells slots ls M
          obtain ⟨hl, k1, k2, kw, hP, hD, hS, c1, c2, sp, hn0⟩ := M
          have GG := G1 ad H locs cells slots ls ⟨hl, k1, List.forall_mem_cons.mpr ⟨trivial, (List.forall_mem_cons.mp k2).2⟩, kw, hP, hD, hS, c1, c2, sp, hn0⟩
          obtain ⟨hX, hbl, hbA⟩ := hXs xs rfl
          show W p l e R s m args below meth c H locs cells slots Q (F0 m pc ls (.ref (ad 1000) :: r.map (ex_v ad)))
          rw [sp 1000 (Or.inr (by decide))]
          exact va_slen hx hb hX hbl hbA hS hd GG
        next => cases ha
      next =>
        split at ha
        next hs =>
          cases ha
          intro ad H locs cells slots ls M
          obtain ⟨hl, k1, k2, kw, hP, hD, hS, c1, c2, sp, hn0⟩ := M
          have GG := G1 ad H locs cells slots ls ⟨hl, k1, List.forall_mem_cons.mpr ⟨trivial, (List.forall_mem_cons.mp k2).2⟩, kw, hP, hD, hS, c1, c2, sp, hn0⟩
          obtain ⟨hj, e2, o1⟩ := ex_o2 hs
          have q1 : ad a = sa (2001 + (a - 2001)) := by rw [e2]; exact sp a (Or.inr o1)
          have hT := (hSt (a - 2001) hj).2.2.2
          rw [← q1] at hT
          exact va_tlen hx hb hT hS rfl hd GG
        next => cases ha
  next => cases ha
theorem ex_i_iaload (F : ex_F mi p s m meth c args) (K : ex_K D cI cZ sa X A s) (hd : decode (kC mi) pc = .ok (.iaload, 1)) (ha : ex_do X mi pc (.iaload) L st w = some (.inl (pc1, L1, st1, w1))) (G1 : ex_G p l e R s m args below meth c Q D cI cZ sa A mi mc ms n0 w9 pc1 L1 st1 w1) : ex_G p l e R s m args below meth c Q D cI cZ sa A mi mc ms n0 w9 pc L st w := by
  obtain ⟨hx, hb, hml, hr, hlk, hown, hts, hin⟩ := F
  obtain ⟨hK, hNW, hSt, hSR, hZ, hZ2, hXs⟩ := K
  simp only [ex_do] at ha
  split at ha
  next i a r =>
    split at ha
    next hlt =>
      split at ha
      next v hg =>
        cases ha
        obtain ⟨xs, hw, hi, hv⟩ := ex_al_s hg
        intro ad H locs cells slots ls M
        obtain ⟨hl, k1, k2, kw, hP, hD, hS, c1, c2, sp, hn0⟩ := M
        have GG := G1 ad H locs cells slots ls ⟨hl, k1, List.forall_mem_cons.mpr ⟨trivial, (List.forall_mem_cons.mp (List.forall_mem_cons.mp k2).2).2⟩, kw, hP, hD, hS, c1, c2, sp, hn0⟩
        have he := ex_m_get (cI := cI) (cZ := cZ) (ad := ad) hw
        have e1 := ex_getD hv
        refine va_iald (f := fun j => xs.getD j 0) hx hb hK hP a 0 he rfl (ex_in hi e1.2) hd ?_
        show W p l e R s m args below meth c H locs cells slots Q (F0 m (pc + 1) ls (.int (xs.getD i.toNatClampNeg 0) :: r.map (ex_v ad)))
        rw [e1.1]
        exact GG
      next => cases ha
    next hlt =>
      split at ha
      next ha2 =>
        obtain ⟨ha2, hi⟩ := ha2
        split at ha
        next xs =>
          split at ha
          next v hv =>
            cases ha
            subst ha2
            intro ad H locs cells slots ls M
            obtain ⟨hl, k1, k2, kw, hP, hD, hS, c1, c2, sp, hn0⟩ := M
            have GG := G1 ad H locs cells slots ls ⟨hl, k1, List.forall_mem_cons.mpr ⟨trivial, (List.forall_mem_cons.mp (List.forall_mem_cons.mp k2).2).2⟩, kw, hP, hD, hS, c1, c2, sp, hn0⟩
            obtain ⟨hX, hbl, hbA⟩ := hXs xs rfl
            have e1 := ex_getD hv
            show W p l e R s m args below meth c H locs cells slots Q (F0 m pc ls (.int i :: .ref (ad 1000) :: r.map (ex_v ad)))
            rw [sp 1000 (Or.inr (by decide))]
            refine va_sld hx hb hX hbl hbA hS (ex_in hi e1.2) hd ?_
            rw [e1.1]
            exact GG
          next => cases ha
        next => cases ha
      next => cases ha
  next => cases ha
theorem ex_i_baload (F : ex_F mi p s m meth c args) (K : ex_K D cI cZ sa X A s) (hd : decode (kC mi) pc = .ok (.baload, 1)) (ha : ex_do X mi pc (.baload) L st w = some (.inl (pc1, L1, st1, w1))) (G1 : ex_G p l e R s m args below meth c Q D cI cZ sa A mi mc ms n0 w9 pc1 L1 st1 w1) : ex_G p l e R s m args below meth c Q D cI cZ sa A mi mc ms n0 w9 pc L st w := by
  obtain ⟨hx, hb, hml, hr, hlk, hown, hts, hin⟩ := F
  obtain ⟨hK, hNW, hSt, hSR, hZ, hZ2, hXs⟩ := K
  simp only [ex_do] at ha
  split at ha
  next i a r =>
    split at ha
    next hlt =>
      split at ha
      next v hg =>
        cases ha
        obtain ⟨xs, hw, hi, hv⟩ := ex_al_s hg
        intro ad H locs cells slots ls M
        obtain ⟨hl, k1, k2, kw, hP, hD, hS, c1, c2, sp, hn0⟩ := M
        have GG := G1 ad H locs cells slots ls ⟨hl, k1, List.forall_mem_cons.mpr ⟨trivial, (List.forall_mem_cons.mp (List.forall_mem_cons.mp k2).2).2⟩, kw, hP, hD, hS, c1, c2, sp, hn0⟩
        have he := ex_m_get (cI := cI) (cZ := cZ) (ad := ad) hw
        have e1 := ex_getD hv
        refine va_zald (f := fun j => xs.getD j 0) hx hb hK hP a 1 he rfl (ex_in hi e1.2) hd ?_
        show W p l e R s m args below meth c H locs cells slots Q (F0 m (pc + 1) ls (.int (xs.getD i.toNatClampNeg 0) :: r.map (ex_v ad)))
        rw [e1.1]
        exact GG
      next => cases ha
    next hlt =>
      split at ha
      next hs =>
        obtain ⟨hs1, hs2, hi⟩ := hs
        split at ha
        next v hv =>
          cases ha
          intro ad H locs cells slots ls M
          obtain ⟨hl, k1, k2, kw, hP, hD, hS, c1, c2, sp, hn0⟩ := M
          have GG := G1 ad H locs cells slots ls ⟨hl, k1, List.forall_mem_cons.mpr ⟨trivial, (List.forall_mem_cons.mp (List.forall_mem_cons.mp k2).2).2⟩, kw, hP, hD, hS, c1, c2, sp, hn0⟩
          obtain ⟨hj, e2, o1⟩ := ex_o2 ⟨hs1, hs2⟩
          have q1 : ad a = sa (2001 + (a - 2001)) := by rw [e2]; exact sp a (Or.inr o1)
          have hT := (hSt (a - 2001) hj).2.2.2
          rw [← q1] at hT
          have e1 := ex_getD hv
          exact va_tb hx hb hT hS (ex_in hi e1.2) (v := .int v) (congrArg Value.int e1.1) hd GG
        next => cases ha
      next => cases ha
  next => cases ha
theorem ex_upd {xs : List Int32} {k : Nat} {x : Int32} (hk : k < xs.length) : (fun j => (xs.set k x).getD j 0) = upd (fun j => xs.getD j 0) k x := by
  funext j
  unfold upd
  simp only [List.getD_eq_getElem?_getD, List.getElem?_set]
  by_cases hj : j = k
  · subst hj
    rw [if_pos rfl, if_pos hk, if_pos rfl]
    rfl
  · rw [if_neg (fun z => hj z.symm), if_neg hj]
theorem ex_as_w {a kd : Nat} {xs : List Int32} {k : Nat} {x : Int32} {ad : Nat → Nat} (hk : k < xs.length) : (ex_m cI cZ ad w).set a (ad a, Sum.inl (if kd = 0 then cI else cZ, xs.length, .inl (upd (fun j => xs.getD j 0) k x))) = ex_m cI cZ ad (w.set a (.inr (kd, xs.set k x))) := by
  rw [← ex_m_set]
  show _ = (ex_m cI cZ ad w).set a (ad a, Sum.inl (if kd = 0 then cI else cZ, (xs.set k x).length, .inl (fun j => (xs.set k x).getD j 0)))
  rw [List.length_set, ex_upd hk]
theorem ex_i_iastore (F : ex_F mi p s m meth c args) (K : ex_K D cI cZ sa X A s) (hd : decode (kC mi) pc = .ok (.iastore, 1)) (ha : ex_do X mi pc (.iastore) L st w = some (.inl (pc1, L1, st1, w1))) (G1 : ex_G p l e R s m args below meth c Q D cI cZ sa A mi mc ms n0 w9 pc1 L1 st1 w1) : ex_G p l e R s m args below meth c Q D cI cZ sa A mi mc ms n0 w9 pc L st w := by
  obtain ⟨hx, hb, hml, hr, hlk, hown, hts, hin⟩ := F
  obtain ⟨hK, hNW, hSt, hSR, hZ, hZ2, hXs⟩ := K
  simp only [ex_do] at ha
  split at ha
  next x i a r =>
    split at ha
    next hlt =>
      split at ha
      next w2 hg =>
        cases ha
        obtain ⟨xs, hw, hi, hk, rfl⟩ := ex_as_s hg
        intro ad H locs cells slots ls M
        obtain ⟨hl, k1, k2, kw, hP, hD, hS, c1, c2, sp, hn0⟩ := M
        have k4 := (List.forall_mem_cons.mp (List.forall_mem_cons.mp (List.forall_mem_cons.mp k2).2).2).2
        have he := ex_m_get (cI := cI) (cZ := cZ) (ad := ad) hw
        have ho : ex_okw (w.set a (.inr (0, xs.set i.toNatClampNeg x))) := ex_okw_set kw trivial
        have hz : ex_sl (w.set a (.inr (0, xs.set i.toNatClampNeg x))) = ex_sl w := ex_sl_set hw (by simp [ex_sz])
        have es := ex_as_w (cI := cI) (cZ := cZ) (w := w) (a := a) (kd := 0) (x := x) (ad := ad) hk
        refine va_iast (f := fun j => xs.getD j 0) (n := xs.length) hx hb hK hP hD hS a 0 he rfl (ex_in hi hk) hd fun H1 locs1 hP1 hD1 hS1 => ?_
        skip
        have hP1 := es ▸ hP1
        have hD1 := es ▸ hD1
        refine G1 ad H1 locs1 cells slots ls ⟨hl, ?_, ?_, ho, hP1, hD1, hS1, ?_, ?_, sp, by rw [List.length_set]; exact hn0⟩
        · rw [List.length_set]; exact k1
        · rw [List.length_set]; exact k4
        · rw [List.length_set]; exact c1
        · rw [hz]; exact c2
      next => cases ha
    next => cases ha
  next => cases ha
theorem ex_i_bastore (F : ex_F mi p s m meth c args) (K : ex_K D cI cZ sa X A s) (hd : decode (kC mi) pc = .ok (.bastore, 1)) (ha : ex_do X mi pc (.bastore) L st w = some (.inl (pc1, L1, st1, w1))) (G1 : ex_G p l e R s m args below meth c Q D cI cZ sa A mi mc ms n0 w9 pc1 L1 st1 w1) : ex_G p l e R s m args below meth c Q D cI cZ sa A mi mc ms n0 w9 pc L st w := by
  obtain ⟨hx, hb, hml, hr, hlk, hown, hts, hin⟩ := F
  obtain ⟨hK, hNW, hSt, hSR, hZ, hZ2, hXs⟩ := K
  simp only [ex_do] at ha
  split at ha
  next x i a r =>
    split at ha
    next hlt =>
      split at ha
      next w2 hg =>
        cases ha
        obtain ⟨xs, hw, hi, hk, rfl⟩ := ex_as_s hg
        intro ad H locs cells slots ls M
        obtain ⟨hl, k1, k2, kw, hP, hD, hS, c1, c2, sp, hn0⟩ := M
        have k4 := (List.forall_mem_cons.mp (List.forall_mem_cons.mp (List.forall_mem_cons.mp k2).2).2).2
        have he := ex_m_get (cI := cI) (cZ := cZ) (ad := ad) hw
        have ho : ex_okw (w.set a (.inr (1, xs.set i.toNatClampNeg x))) := ex_okw_set kw trivial
        have hz : ex_sl (w.set a (.inr (1, xs.set i.toNatClampNeg x))) = ex_sl w := ex_sl_set hw (by simp [ex_sz])
        have es := ex_as_w (cI := cI) (cZ := cZ) (w := w) (a := a) (kd := 1) (x := x) (ad := ad) hk
        refine va_zast (f := fun j => xs.getD j 0) (n := xs.length) hx hb hK hP hD hS a 1 he rfl (ex_in hi hk) hd fun H1 locs1 hP1 hD1 hS1 => ?_
        rw [hlt.2] at hP1 hD1
        have hP1 := es ▸ hP1
        have hD1 := es ▸ hD1
        refine G1 ad H1 locs1 cells slots ls ⟨hl, ?_, ?_, ho, hP1, hD1, hS1, ?_, ?_, sp, by rw [List.length_set]; exact hn0⟩
        · rw [List.length_set]; exact k1
        · rw [List.length_set]; exact k4
        · rw [List.length_set]; exact c1
        · rw [hz]; exact c2
      next => cases ha
    next => cases ha
  next => cases ha
end EXH
