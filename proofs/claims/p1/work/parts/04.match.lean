/-! the pure machine's worlds and frames beside the real ones -/
/-- null or a reference, by a number -/
def ex_fm : Nat → Value
  | 0 => .null
  | t + 1 => .ref t
def ex_v (ad : Nat → Nat) : Value → Value
  | .ref k => .ref (ad k)
  | .int x => .int x
  | .long x => .long x
  | .float x => .float x
  | .double x => .double x
  | .null => .null
  | .retAddr _ => ex_fm (ad 3000)
theorem ex_fm_cat (n : Nat) : (ex_fm n).category = 1 := by cases n <;> rfl
theorem ex_v_cat (ad : Nat → Nat) (v : Value) : (ex_v ad v).category = v.category := by
  cases v with
  | retAddr x => exact ex_fm_cat _
  | _ => rfl
def ex_q (ad : Nat → Nat) (q : Nat × Value) : Nat × Value := (q.1, ex_v ad q.2)
/-- a reference goes to a cell below n, or to one of those that stand outside -/
def ex_ok (n : Nat) : Value → Prop
  | .ref k => k < n ∨ 1000 ≤ k
  | _ => True
def ex_okc (n : Nat) : ex_C → Prop
  | .inl o => ∀ v ∈ o.2, ex_ok n v
  | .inr _ => True
def ex_okw (w : ex_W) : Prop := ∀ c ∈ w, ex_okc w.length c
theorem ex_ok_mono {n k : Nat} (h : n ≤ k) {v : Value} (hv : ex_ok n v) : ex_ok k v := by
  cases v with
  | ref a => rcases hv with h1 | h1
             · exact Or.inl (Nat.lt_of_lt_of_le h1 h)
             · exact Or.inr h1
  | _ => trivial
theorem ex_okc_mono {n k : Nat} (h : n ≤ k) {c : ex_C} (hv : ex_okc n c) : ex_okc k c := by
  cases c with
  | inl o => exact fun v hm => ex_ok_mono h (hv v hm)
  | inr _ => trivial
/-- two numberings that agree below n and outside -/
def ex_ext (n : Nat) (ad ad1 : Nat → Nat) : Prop := ∀ k, k < n ∨ 1000 ≤ k → ad1 k = ad k
theorem ex_v_ext {n : Nat} {ad ad1 : Nat → Nat} (h : ex_ext n ad ad1) {v : Value} (hv : ex_ok n v) : ex_v ad1 v = ex_v ad v := by
  cases v with
  | ref a => exact congrArg Value.ref (h a hv)
  | retAddr x => exact congrArg ex_fm (h 3000 (Or.inr (by decide)))
  | _ => rfl
theorem ex_ext.rf {n : Nat} {ad : Nat → Nat} : ex_ext n ad ad := fun _ _ => rfl
theorem ex_ext.tr {n k : Nat} {a b c : Nat → Nat} (hk : n ≤ k) (h1 : ex_ext n a b) (h2 : ex_ext k b c) : ex_ext n a c := fun q hq => by
  rw [h2 q (by rcases hq with h | h
               · exact Or.inl (Nat.lt_of_lt_of_le h hk)
               · exact Or.inr h), h1 q hq]
theorem ex_map_ext {n : Nat} {ad ad1 : Nat → Nat} (h : ex_ext n ad ad1) : ∀ {st : List Value}, (∀ v ∈ st, ex_ok n v) → st.map (ex_v ad1) = st.map (ex_v ad) := by
  intro st hs
  exact List.map_congr_left fun v hv => ex_v_ext h (hs v hv)
theorem ex_mapq_ext {n : Nat} {ad ad1 : Nat → Nat} (h : ex_ext n ad ad1) {L : ex_L} (hs : ∀ q ∈ L, ex_ok n q.2) : L.map (ex_q ad1) = L.map (ex_q ad) :=
  List.map_congr_left fun q hq => by unfold ex_q; rw [ex_v_ext h (hs q hq)]
def ex_c (cI cZ : ClassId) (ad : Nat → Nat) : ex_C → va_E
  | .inl o => .inr (o.1, o.2.map (ex_v ad))
  | .inr a => .inl (if a.1 = 0 then cI else cZ, a.2.length, .inl (fun j => a.2.getD j 0))
def ex_m (cI cZ : ClassId) (ad : Nat → Nat) (w : ex_W) : va_W := w.mapIdx (fun i c => (ad i, ex_c cI cZ ad c))
theorem ex_m_get {cI cZ : ClassId} {ad : Nat → Nat} {w : ex_W} {h : Nat} {c : ex_C} (hc : w[h]? = some c) : (ex_m cI cZ ad w)[h]? = some (ad h, ex_c cI cZ ad c) := by
  unfold ex_m
  rw [List.getElem?_mapIdx, hc]
  rfl
theorem ex_m_set {cI cZ : ClassId} {ad : Nat → Nat} {w : ex_W} {h : Nat} (c : ex_C) : (ex_m cI cZ ad w).set h (ad h, ex_c cI cZ ad c) = ex_m cI cZ ad (w.set h c) := by
  apply List.ext_getElem?
  intro i
  unfold ex_m
  rw [List.getElem?_mapIdx, List.getElem?_set, List.getElem?_set, List.getElem?_mapIdx, List.length_mapIdx]
  by_cases hi : h = i
  · subst hi
    rw [if_pos rfl, if_pos rfl]
    split <;> rfl
  · rw [if_neg hi, if_neg hi]
theorem ex_c_ext {cI cZ : ClassId} {n : Nat} {ad ad1 : Nat → Nat} (h : ex_ext n ad ad1) {c : ex_C} (hc : ex_okc n c) : ex_c cI cZ ad1 c = ex_c cI cZ ad c := by
  cases c with
  | inl o =>
    obtain ⟨ci, fs⟩ := o
    show Sum.inr (ci, fs.map (ex_v ad1)) = Sum.inr (ci, fs.map (ex_v ad))
    rw [ex_map_ext h hc]
  | inr a => rfl
theorem ex_m_ext {cI cZ : ClassId} {ad ad1 : Nat → Nat} {w : ex_W} (h : ex_ext w.length ad ad1) (hw : ex_okw w) : ex_m cI cZ ad1 w = ex_m cI cZ ad w := by
  apply List.ext_getElem?
  intro i
  unfold ex_m
  rw [List.getElem?_mapIdx, List.getElem?_mapIdx]
  cases hc : w[i]? with
  | none => rfl
  | some c =>
    have hi := (List.getElem?_eq_some_iff.mp hc).1
    show some (ad1 i, ex_c cI cZ ad1 c) = some (ad i, ex_c cI cZ ad c)
    rw [h i (Or.inl hi), ex_c_ext h (hw c (List.mem_of_getElem? hc))]
theorem ex_m_push {cI cZ : ClassId} {ad ad1 : Nat → Nat} {w : ex_W} {c : ex_C} (h : ex_ext w.length ad ad1) (hw : ex_okw w) (hc : ex_c cI cZ ad c = ex_c cI cZ ad1 c) : ex_m cI cZ ad w ++ [(ad1 w.length, ex_c cI cZ ad c)] = ex_m cI cZ ad1 (w ++ [c]) := by
  rw [hc, ← ex_m_ext h hw]
  unfold ex_m
  rw [List.mapIdx_append]
  simp
theorem ex_m_len {cI cZ : ClassId} {ad : Nat → Nat} {w : ex_W} : (ex_m cI cZ ad w).length = w.length := by
  unfold ex_m
  exact List.length_mapIdx
theorem ex_okw_set {w : ex_W} {h : Nat} {c : ex_C} (hw : ex_okw w) (hc : ex_okc w.length c) : ex_okw (w.set h c) := by
  intro x hx
  rw [List.length_set]
  rcases List.mem_or_eq_of_mem_set hx with h1 | h1
  · exact hw x h1
  · rw [h1]; exact hc
theorem ex_okw_push {w : ex_W} {c : ex_C} (hw : ex_okw w) (hc : ex_okc (w.length + 1) c) : ex_okw (w ++ [c]) := by
  intro x hx
  rw [List.length_append]
  rcases List.mem_append.mp hx with h1 | h1
  · exact ex_okc_mono (by simp) (hw x h1)
  · rw [List.mem_singleton.mp h1]
    exact hc
theorem ex_sl_set {w : ex_W} {h : Nat} {c d : ex_C} (hc : w[h]? = some c) (hd : ex_sz d = ex_sz c) : ex_sl (w.set h d) = ex_sl w := by
  unfold ex_sl
  rw [List.map_set, hd]
  have hm : (w.map ex_sz)[h]? = some (ex_sz c) := by rw [List.getElem?_map, hc]; rfl
  have : (w.map ex_sz).set h (ex_sz c) = w.map ex_sz := by
    apply List.ext_getElem?
    intro i
    rw [List.getElem?_set]
    by_cases hi : h = i
    · subst hi
      rw [if_pos rfl, hm, if_pos (List.getElem?_eq_some_iff.mp hm).1]
    · rw [if_neg hi]
  rw [this]
theorem ex_sl_push {w : ex_W} {c : ex_C} : ex_sl (w ++ [c]) = ex_sl w + ex_sz c := by
  unfold ex_sl
  simp
theorem ex_get_mem : ∀ {L : ex_L} {i : Nat} {v : Value}, ex_get L i = some v → (i, v) ∈ L := by
  intro L
  induction L with
  | nil => intro i v h; cases h
  | cons q t ih =>
    intro i v h
    rw [ex_get] at h
    split at h
    next hq =>
      cases h
      subst hq
      exact List.mem_cons_self
    next => exact List.mem_cons_of_mem _ (ih h)
theorem ex_ins_mem : ∀ {L : ex_L} {i : Nat} {v : Value} {q : Nat × Value}, q ∈ ex_ins L i v → q = (i, v) ∨ q ∈ L := by
  intro L
  induction L with
  | nil =>
    intro i v q h
    exact Or.inl (List.mem_singleton.mp h)
  | cons x t ih =>
    intro i v q h
    rw [ex_ins] at h
    split at h
    · rcases List.mem_cons.mp h with h1 | h1
      · exact Or.inl h1
      · exact Or.inr h1
    · rcases List.mem_cons.mp h with h1 | h1
      · exact Or.inr (by rw [h1]; exact List.mem_cons_self)
      · rcases ih h1 with h2 | h2
        · exact Or.inl h2
        · exact Or.inr (List.mem_cons_of_mem _ h2)
theorem ex_set_mem {L : ex_L} {i : Nat} {v : Value} {q : Nat × Value} (h : q ∈ ex_set L i v) : q = (i, v) ∨ (q ∈ L ∧ ex_hit i v q = false) := by
  rcases ex_ins_mem h with h1 | h1
  · exact Or.inl h1
  · have h2 := List.mem_filter.mp h1
    exact Or.inr ⟨h2.1, by simpa using h2.2⟩
theorem lv_less {ls : Array Slot} {nL : Nat} {l l' : List (Nat × Value)} (h : lv_has ls nL l) (hl : ∀ q ∈ l', q ∈ l) : lv_has ls nL l' := ⟨h.1, h.2.1, fun q hq => h.2.2 q (hl q hq)⟩
/-- the variables behind a store of one word -/
theorem ex_st1 {ls : Array Slot} {nL : Nat} {ad : Nat → Nat} {L : ex_L} {i : Nat} {v : Value} (hc : v.category = 1) (h : lv_has ls nL ((i, ex_v ad v) :: (L.map (ex_q ad)).filter (fun q => !(q.1 == i) && !(q.1 + 1 == i && q.2.category == 2)))) : lv_has ls nL ((ex_set L i v).map (ex_q ad)) := by
  refine lv_less h fun q hq => ?_
  obtain ⟨x, hx, rfl⟩ := List.mem_map.mp hq
  rcases ex_set_mem hx with rfl | ⟨h1, h2⟩
  · exact List.mem_cons_self
  · refine List.mem_cons_of_mem _ (List.mem_filter.mpr ⟨List.mem_map.mpr ⟨x, h1, rfl⟩, ?_⟩)
    simp only [ex_hit, hc, Bool.or_eq_false_iff] at h2
    simp only [ex_q, ex_v_cat]
    rw [h2.1.1, h2.1.2]
    rfl
theorem ex_st2 {ls : Array Slot} {nL : Nat} {ad : Nat → Nat} {L : ex_L} {i : Nat} {v : Value} (hc : v.category = 2) (h : lv_has ls nL ((i, ex_v ad v) :: (L.map (ex_q ad)).filter (fun q => !(q.1 == i) && (!(q.1 == i + 1) && !(q.1 + 1 == i && q.2.category == 2))))) : lv_has ls nL ((ex_set L i v).map (ex_q ad)) := by
  refine lv_less h fun q hq => ?_
  obtain ⟨x, hx, rfl⟩ := List.mem_map.mp hq
  rcases ex_set_mem hx with rfl | ⟨h1, h2⟩
  · exact List.mem_cons_self
  · refine List.mem_cons_of_mem _ (List.mem_filter.mpr ⟨List.mem_map.mpr ⟨x, h1, rfl⟩, ?_⟩)
    simp only [ex_hit, hc, Bool.or_eq_false_iff] at h2
    simp only [ex_q, ex_v_cat]
    have h3 : (x.1 == i + 1) = false := by simpa using h2.2
    rw [h2.1.1, h2.1.2, h3]
    rfl
theorem ex_set_ok {n : Nat} {L : ex_L} {i : Nat} {v : Value} (hL : ∀ q ∈ L, ex_ok n q.2) (hv : ex_ok n v) : ∀ q ∈ ex_set L i v, ex_ok n q.2 := by
  intro q hq
  rcases ex_set_mem hq with rfl | ⟨h1, -⟩
  · exact hv
  · exact hL q h1
theorem ex_tr_mem {mi pc : Nat} {L : ex_L} {q : Nat × Value} (h : q ∈ ex_tr mi pc L) : q ∈ L := by
  unfold ex_tr at h
  split at h
  · exact h
  · exact (List.mem_filter.mp h).1
/-- the variables with which a frame begins -/
theorem ex_args_map (ad : Nat → Nat) : ∀ (vs : List Value) (i : Nat), lv_args i (vs.map (ex_v ad)) = (lv_args i vs).map (ex_q ad)
  | [], _ => rfl
  | v :: vs, i => by
    show (i, ex_v ad v) :: lv_args (if (ex_v ad v).category = 2 then i + 2 else i + 1) (vs.map (ex_v ad)) = (i, ex_v ad v) :: (lv_args (if v.category = 2 then i + 2 else i + 1) vs).map (ex_q ad)
    rw [ex_v_cat, ex_args_map ad vs]
theorem ex_args_ok {n : Nat} : ∀ (vs : List Value) (i : Nat), (∀ v ∈ vs, ex_ok n v) → ∀ q ∈ lv_args i vs, ex_ok n q.2
  | [], _, _, q, hq => by cases hq
  | v :: vs, i, h, q, hq => by
    rcases List.mem_cons.mp hq with rfl | h1
    · exact h v List.mem_cons_self
    · exact ex_args_ok vs _ (fun u hu => h u (List.mem_cons_of_mem _ hu)) q h1
