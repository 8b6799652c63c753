/-! calls: a callee's contract out of its run, and the whole run -/
theorem ex_sl_map (ad : Nat → Nat) (vs : List Value) : (lg_sl (vs.map (ex_v ad))).length = (lg_sl vs).length := by
  unfold lg_sl
  induction vs with
  | nil => rfl
  | cons v vs ih =>
    simp only [List.map_cons, List.flatMap_cons, List.length_append, ih, ex_v_cat]
    split <;> rfl
def ex_rm (mi mc ms : Nat) : Room := { frames := kV mi, cells := mc, slots := ms, locals := kW mi }
def ex_ws (mi : Nat) : List Cond := Cond.code (kY mi) (kC mi) (kL mi) (kR mi) :: kWS
theorem ex_ws_good {mj : Nat} (h0 : 0 < mj) (h : mj < kNM) : GoodIn kWS (ex_ws mj) := fun w hw => (List.mem_cons.mp hw).elim (fun e => by rw [e]; exact kWS_good _ (kt_Y h0 h).1) (kWS_good w)
def ex_Pre (D : va_G) (cI cZ : ClassId) (X : Option (List Int32)) (ad : Nat → Nat) (w : ex_W) (av : List Value) (sz : Nat) : Array Value → State → Prop := va_Pc (av.map (ex_v ad)) (fun U => U.heap.size = sz ∧ va_P D kCl (ex_m cI cZ ad w) U.heap ∧ va_D (fun _ => True) (ex_m cI cZ ad w) ∧ ex_K D cI cZ ad X (va_A (ex_m cI cZ ad w) sz) U)
def ex_Post (D : va_G) (cI cZ : ClassId) (ad : Nat → Nat) (w : ex_W) (r : Option Value) (w1 : ex_W) (sz : Nat) : Array Value → State → Outcome → State → Prop := fun _ st oc t => (∃ ad1, ex_sp w.length ad ad1 ∧ oc = .returned (r.map (ex_v ad1)) ∧ (∀ v ∈ r.toList, ex_ok w1.length v) ∧ ex_okw w1 ∧ va_P D kCl (ex_m cI cZ ad1 w1) t.heap ∧ va_D (va_A (ex_m cI cZ ad w) sz) (ex_m cI cZ ad1 w1)) ∧ va_F (va_A (ex_m cI cZ ad w) sz) st t
theorem ex_NW_s {w : Cond} (h : w ∈ kNW) : ∃ a i b n d hh, w = .fieldLinkNest a i b n d hh := by
  have h2 := (List.mem_filter.mp h).2
  cases w <;> first | exact ⟨_, _, _, _, _, _, rfl⟩ | cases h2
/-- what stands outside, seen from a callee -/
theorem ex_K_call {D : va_G} {cI cZ : ClassId} {sa sb : Nat → Nat} {X : Option (List Int32)} {A A1 : Nat → Prop} {s U : State} {H : Heap} {locs : List Loc} (K : ex_K D cI cZ sa X A s) (hW : s.WarmedH U.vm) (hU : U.heap = H) (hS : va_S A s.heap H locs) (hA : ∀ q, A1 q → A q) (hs : ∀ k, 1000 ≤ k → sb k = sa k) : ex_K D cI cZ sb X A1 U := by
  obtain ⟨hK, hNW, hSt, hSR, hZ, hZ2, hXs⟩ := K
  subst hU
  have hk := hS.2.1
  refine ⟨va_K.moved hW.alike hK, fun w hw => ?_, fun j hj => ?_, fun q hq => ?_, ?_, ?_, fun xs hx => ?_⟩
  · obtain ⟨a, i, b, n, d, hh, rfl⟩ := ex_NW_s hw
    exact va_Nw.warmF hW (hNW _ hw)
  · rw [hs (1001 + j) (by omega), hs (2001 + j) (by omega)]
    obtain ⟨a1, a2, a3, a4⟩ := hSt j hj
    exact ⟨((a1.moved hW.alike).kept hk).narrow hA, ((a2.moved hW.alike).kept hk).narrow hA, ((a3.moved hW.alike).kept hk).narrow hA, ((a4.moved hW.alike).kept hk).narrow hA⟩
  · rw [hs _ (by omega)]
    exact vk_R.warm hW (hSR q hq)
  · exact ((hZ.moved hW.alike).kept hk).narrow hA
  · rw [hs 3000 (by decide)]
    exact ((hZ2.moved hW.alike).kept hk).narrow hA
  · rw [hs 1000 (by decide)]
    obtain ⟨b1, b2, b3⟩ := hXs xs hx
    exact ⟨(b1.moved hW.alike).kept (hk _ b2 b3), Nat.lt_of_lt_of_le b2 hS.1, fun z => b3 (hA _ z)⟩
theorem ex_K_blind {D : va_G} {cI cZ : ClassId} {sa : Nat → Nat} {X : Option (List Int32)} {A : Nat → Prop} {U : State} (g : JFrame) (mk : MethodId) (a : Array Value) (K : ex_K D cI cZ sa X A U) : ex_K D cI cZ sa X A (U.calling g mk a) := by
  obtain ⟨hK, hNW, hSt, hSR, hZ, hZ2, hXs⟩ := K
  have hv : U.vm.Alike (U.calling g mk a).vm := Vm.Alike.refl U.vm
  have he : (U.calling g mk a).heap = U.heap := rfl
  refine ⟨va_K.moved hv hK, fun w hw => ?_, fun j hj => ?_, fun q hq => ?_, ?_, ?_, fun xs hx => ?_⟩
  · obtain ⟨a, i, b, n, d, hh, rfl⟩ := ex_NW_s hw
    exact va_Nw.same rfl (rfl : U.vm = (U.calling g mk _).vm) (hNW _ hw)
  · obtain ⟨a1, a2, a3, a4⟩ := hSt j hj
    exact ⟨a1.moved hv, a2.moved hv, a3.moved hv, a4.moved hv⟩
  · exact vk_R.same (rfl : (U.calling g mk a).vm = U.vm) (hSR q hq)
  · exact hZ.moved hv
  · exact hZ2.moved hv
  · obtain ⟨b1, b2, b3⟩ := hXs xs hx
    exact ⟨b1.moved hv, b2, b3⟩
theorem ex_Pre_blind {D : va_G} {cI cZ : ClassId} {X : Option (List Int32)} {ad : Nat → Nat} {w : ex_W} {av : List Value} {sz : Nat} : FrameBlind (ex_Pre D cI cZ X ad w av sz) := by
  intro a U g mk h
  obtain ⟨h0, h1, h2, h3, h4⟩ := h
  exact ⟨h0, h1, h2, h3, ex_K_blind g mk a h4⟩
/-- an end of a method that fits its answer -/
def ex_ri (ret : Option FieldType) (i : Jvm.ClassFile.Instr) (r : Option Value) : Prop := match i, r with
  | .ireturn, some (.int v) => ∃ ty, ret = some ty ∧ narrow ty (.int v) = .int v
  | .lreturn, some (.long _) => ret = some .long
  | .areturn, some (.ref _) => ∃ n, ret = some (.object n)
  | .return_, none => ret = none
  | _, _ => False
def ex_Snd (l : Launch) (X : Option (List Int32)) (n : Nat) : Prop := ∀ (mi pc : Nat) (L : ex_L) (st : List Value) (w : ex_W) (r : Option Value) (w9 : ex_W), mi < kNM → ex_run X n mi pc L st w = some (r, w9) →
  ∀ (p : Program) (e : Env) (R : Room) (s : State) (m : MethodId) (args : Array Value) (below : List Frame) (meth : Method) (c : Code) (Q : State → Prop) (D : va_G) (cI cZ : ClassId) (sa : Nat → Nat) (A : Nat → Prop) (mc ms n0 : Nat),
  ex_F mi p s m meth c args → ex_K D cI cZ sa X A s → (∀ q, s.heap.size ≤ q → A q) → (kV mi ≤ R.frames ∧ kW mi ≤ R.locals) → mc ≤ R.cells → ms ≤ R.slots →
  (∀ (pc1 : Nat) (i : Jvm.ClassFile.Instr), decode (kC mi) pc1 = .ok (i, 1) → ex_ri (kR mi) i r → ex_G p l e R s m args below meth c Q D cI cZ sa A mi mc ms n0 w9 pc1 [] r.toList w9) →
  ex_G p l e R s m args below meth c Q D cI cZ sa A mi mc ms n0 w9 pc L st w
theorem ex_met {l : Launch} {X : Option (List Int32)} {n : Nat} (ih : ex_Snd l X n) {mj : Nat} {av : List Value} {w w1 : ex_W} {rv : Option Value} (h0 : 0 < mj) (h1 : mj < kNM) (hrun : ex_run X n mj 0 (lv_args 0 av) [] w = some (rv, w1)) (hav : ∀ v ∈ av, ex_ok w.length v) (hlen : (lg_sl av).length ≤ kL mj) (hw : ex_okw w) (hle : w.length ≤ w1.length ∧ ex_sl w ≤ ex_sl w1) (D : va_G) (cI cZ : ClassId) (ad : Nat → Nat) (sz : Nat) :
    Met l (kY mj) (ex_ws mj) (ex_rm mj (w1.length - w.length) (ex_sl w1 - ex_sl w)) (ex_Pre D cI cZ X ad w av sz) (ex_Post D cI cZ ad w rv w1 sz) (w1.length - w.length) (ex_sl w1 - ex_sl w) (va_A (ex_m cI cZ ad w) sz) := by
  obtain ⟨y1, y2, y3, y4, y5⟩ := kt_Y h0 h1
  refine Met.ofW (cc := kC mj) (maxL := kL mj) (ret := kR mj) y4 rfl ?_
  intro p e s m args below meth c s₁ B hml hv
  obtain ⟨rfl, hsz, hP, hD0, hK⟩ := hv
  have hts := atoms_spec (ws := ex_ws mj) B.pre
  have hown : s.vm.findClass (kY mj).cls = some m.cls := findClass_of_methodNamed B.named
  rw [y3.1] at hown
  have F : ex_F mj p s m meth c (av.map (ex_v ad)).toArray := ⟨B.exec, B.bytes, hml, B.returns, B.notSynchronized, hown, fun q hq => hts q (List.mem_cons_of_mem _ hq), fun hi => (name_of_methodNamed B.named B.method).1.trans (y5 hi)⟩
  subst hsz
  have hl := lv_entry (av.map (ex_v ad)) (n := kL mj) (by rw [ex_sl_map]; exact hlen)
  rw [lg_entry_eq]
  generalize (lg_sl (av.map (ex_v ad)) ++ List.replicate (kL mj - (lg_sl (av.map (ex_v ad))).length) Slot.unset).toArray = ls at hl ⊢
  rw [ex_args_map] at hl
  have hx := F.1
  have hb := F.2.1
  have hr := F.2.2.2.1
  have hlocks := F.2.2.2.2.1
  refine ih mj 0 (lv_args 0 av) [] w rv w1 h1 hrun p e (headSpec (ex_ws mj) (ex_rm mj (w1.length - w.length) (ex_sl w1 - ex_sl w))).room s m _ below meth c _ D cI cZ ad (va_A (ex_m cI cZ ad w) s.heap.size) (w1.length - w.length) (ex_sl w1 - ex_sl w) w.length F hK (fun q hq => Or.inr hq) ⟨Nat.le_refl _, Nat.le_refl _⟩ (Nat.le_refl _) (Nat.le_refl _) ?_ ad s.heap [] 0 0 ls ⟨hl, ex_args_ok av 0 hav, fun v hv => (by cases hv), hw, hP, hD0.self, va_S.rf, by omega, by omega, fun _ _ => rfl, Nat.le_refl _⟩
  intro pc1 i hd hri ad1 H locs cells slots ls1 M
  obtain ⟨hl1, k1, k2, kw, hP1, hD1, hS1, c1, c2, sp, hn0⟩ := M
  refine W.widen (k := w1.length - w.length) (n := ex_sl w1 - ex_sl w) (by omega) (by omega) ?_
  have fin : ∀ t : State, t.heap = H → s.WarmedH t.vm → ex_Post D cI cZ ad w rv w1 s.heap.size (av.map (ex_v ad)).toArray s (.returned (rv.map (ex_v ad1))) t := fun t ht _ => ⟨⟨ad1, sp, rfl, k2, kw, by rw [ht]; exact hP1, hD1⟩, hS1.F ht⟩
  unfold ex_ri at hri
  split at hri
  next v =>
    obtain ⟨ty, e1, e2⟩ := hri
    exact W.zret (ty := ty) hx hb (hr.trans e1) e2 fin hS1.2.2 hd
  next v =>
    exact W.lret hx hb (hr.trans hri) fin hS1.2.2 hd
  next v =>
    obtain ⟨nm, e1⟩ := hri
    exact W.aret (v := .ref (ad1 v)) hx hb (hr.trans e1) (Or.inl ⟨_, rfl⟩) (Or.inr ⟨_, rfl⟩) fin hS1.2.2 hd
  next =>
    exact W.vret hx hb (hr.trans hri) fin hS1.2.2 hd
  next => cases hri
