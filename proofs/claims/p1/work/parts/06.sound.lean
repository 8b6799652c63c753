/-! one step of the pure machine is one step of the real one -/
def ex_sp (n0 : Nat) (sa ad : Nat → Nat) : Prop := ∀ k, k < n0 ∨ 1000 ≤ k → ad k = sa k
/-- what stands outside the world: the tables' words, the texts, two statics, the script -/
def ex_K (D : va_G) (cI cZ : ClassId) (sa : Nat → Nat) (X : Option (List Int32)) (A : Nat → Prop) (U : State) : Prop :=
  va_K D kCl [(cI, .int), (cZ, .boolean)] U ∧ (∀ w ∈ kNW, va_Nw w U) ∧
  (∀ j, j < nS → va_O "java/lang/String" (sa (1001 + j)) A U U.heap ∧ va_OF "java/lang/String" "coder" "B" (.int 0) (sa (1001 + j)) A U U.heap ∧ va_OF "java/lang/String" "value" "[B" (.ref (sa (2001 + j))) (sa (1001 + j)) A U U.heap ∧ va_T .byte (sa (2001 + j)) (kX j).length (fun i => .int ((kX j).getD i 0)) A U U.heap) ∧
  (∀ q ∈ kSR, vk_R q.1 q.2.1 q.2.2.1 (sa (1001 + q.2.2.2)) U) ∧
  va_Z "java/lang/String" "COMPACT_STRINGS" "Z" (.int 1) A U U.heap ∧ va_Z "jdk/internal/util/Preconditions" "SIOOBE_FORMATTER" "Ljava/util/function/BiFunction;" (ex_fm (sa 3000)) A U U.heap ∧
  ∀ xs, X = some xs → va_X (sa 1000) xs.length (fun j => xs.getD j 0) U U.heap ∧ sa 1000 < U.heap.size ∧ ¬ A (sa 1000)
def ex_F (mi : Nat) (p : Program) (s : State) (m : MethodId) (meth : Method) (c : Code) (args : Array Value) : Prop :=
  p.tables.exec = Jvm.exec ∧ c.code = kC mi ∧ c.maxLocals = kL mi ∧ meth.sig.returnType = kR mi ∧ meth.locks = false ∧ s.vm.findClass (kOn (kO mi)) = some m.cls ∧ (∀ w ∈ kWS, w.before args s = true) ∧ (kN0 mi = true → meth.name = "<init>")
def ex_M (D : va_G) (cI cZ : ClassId) (sa : Nat → Nat) (A : Nat → Prop) (mi mc ms n0 : Nat) (w9 : ex_W) (H0 : Heap) (ad : Nat → Nat) (H : Heap) (locs : List Loc) (cells slots : Nat) (ls : Array Slot) (L : ex_L) (st : List Value) (w : ex_W) : Prop :=
  lv_has ls (kL mi) (L.map (ex_q ad)) ∧ (∀ q ∈ L, ex_ok w.length q.2) ∧ (∀ v ∈ st, ex_ok w.length v) ∧ ex_okw w ∧ va_P D kCl (ex_m cI cZ ad w) H ∧ va_D A (ex_m cI cZ ad w) ∧ va_S A H0 H locs ∧ cells + w9.length ≤ mc + w.length ∧ slots + ex_sl w9 ≤ ms + ex_sl w ∧ ex_sp n0 sa ad ∧ n0 ≤ w.length
def ex_G (p : Program) (l : Launch) (e : Env) (R : Room) (s : State) (m : MethodId) (args : Array Value) (below : List Frame) (meth : Method) (c : Code) (Q : State → Prop) (D : va_G) (cI cZ : ClassId) (sa : Nat → Nat) (A : Nat → Prop) (mi mc ms n0 : Nat) (w9 : ex_W) (pc : Nat) (L : ex_L) (st : List Value) (w : ex_W) : Prop :=
  ∀ (ad : Nat → Nat) (H : Heap) (locs : List Loc) (cells slots : Nat) (ls : Array Slot), ex_M D cI cZ sa A mi mc ms n0 w9 s.heap ad H locs cells slots ls L st w → W p l e R s m args below meth c H locs cells slots Q (F0 m pc ls (st.map (ex_v ad)))
section EXS
variable {p : Program} {l : Launch} {e : Env} {R : Room} {s : State} {m : MethodId} {args : Array Value} {below : List Frame} {meth : Method} {c : Code} {Q : State → Prop} {D : va_G} {cI cZ : ClassId} {sa : Nat → Nat} {A : Nat → Prop} {mi mc ms n0 : Nat} {w9 : ex_W} {pc : Nat} {L : ex_L} {st : List Value} {w : ex_W}
theorem ex_ldA_s {pc1 : Nat} {L1 : ex_L} {st1 : List Value} {w1 : ex_W} {pcn i : Nat} (ha : ex_ldA pcn L st w i = some (.inl (pc1, L1, st1, w1))) (G1 : ex_G p l e R s m args below meth c Q D cI cZ sa A mi mc ms n0 w9 pc1 L1 st1 w1)
    (row : ∀ (x : Nat) (H : Heap) (locs : List Loc) (cells slots : Nat) (ls : Array Slot) (rest : List Value), ls[i]? = some (.val (.ref x)) → W p l e R s m args below meth c H locs cells slots Q (F0 m pcn ls (.ref x :: rest)) → W p l e R s m args below meth c H locs cells slots Q (F0 m pc ls rest)) : ex_G p l e R s m args below meth c Q D cI cZ sa A mi mc ms n0 w9 pc L st w := by
  intro ad H locs cells slots ls M
  unfold ex_ldA at ha
  split at ha
  next x hx =>
    cases ha
    obtain ⟨hl, k1, k2, kw, hP, hD, hS, c1, c2, sp, hn0⟩ := M
    have hm := ex_get_mem hx
    refine row (ad x) H locs cells slots ls _ (hl.2.2 (i, .ref (ad x)) (List.mem_map.mpr ⟨_, hm, rfl⟩)) ?_
    exact G1 ad H locs cells slots ls ⟨hl, k1, List.forall_mem_cons.mpr ⟨k1 _ hm, k2⟩, kw, hP, hD, hS, c1, c2, sp, hn0⟩
  next => cases ha
theorem ex_ldI_s {pc1 : Nat} {L1 : ex_L} {st1 : List Value} {w1 : ex_W} {pcn i : Nat} (ha : ex_ldI pcn L st w i = some (.inl (pc1, L1, st1, w1))) (G1 : ex_G p l e R s m args below meth c Q D cI cZ sa A mi mc ms n0 w9 pc1 L1 st1 w1)
    (row : ∀ (x : Int32) (H : Heap) (locs : List Loc) (cells slots : Nat) (ls : Array Slot) (rest : List Value), ls[i]? = some (.val (.int x)) → W p l e R s m args below meth c H locs cells slots Q (F0 m pcn ls (.int x :: rest)) → W p l e R s m args below meth c H locs cells slots Q (F0 m pc ls rest)) : ex_G p l e R s m args below meth c Q D cI cZ sa A mi mc ms n0 w9 pc L st w := by
  intro ad H locs cells slots ls M
  unfold ex_ldI at ha
  split at ha
  next x hx =>
    cases ha
    obtain ⟨hl, k1, k2, kw, hP, hD, hS, c1, c2, sp, hn0⟩ := M
    have hm := ex_get_mem hx
    refine row x H locs cells slots ls _ (hl.2.2 (i, .int x) (List.mem_map.mpr ⟨_, hm, rfl⟩)) ?_
    exact G1 ad H locs cells slots ls ⟨hl, k1, List.forall_mem_cons.mpr ⟨k1 _ hm, k2⟩, kw, hP, hD, hS, c1, c2, sp, hn0⟩
  next => cases ha
theorem ex_ldJ_s {pc1 : Nat} {L1 : ex_L} {st1 : List Value} {w1 : ex_W} {pcn i : Nat} (ha : ex_ldJ pcn L st w i = some (.inl (pc1, L1, st1, w1))) (G1 : ex_G p l e R s m args below meth c Q D cI cZ sa A mi mc ms n0 w9 pc1 L1 st1 w1)
    (row : ∀ (x : Int64) (H : Heap) (locs : List Loc) (cells slots : Nat) (ls : Array Slot) (rest : List Value), ls[i]? = some (.val (.long x)) → W p l e R s m args below meth c H locs cells slots Q (F0 m pcn ls (.long x :: rest)) → W p l e R s m args below meth c H locs cells slots Q (F0 m pc ls rest)) : ex_G p l e R s m args below meth c Q D cI cZ sa A mi mc ms n0 w9 pc L st w := by
  intro ad H locs cells slots ls M
  unfold ex_ldJ at ha
  split at ha
  next x hx =>
    cases ha
    obtain ⟨hl, k1, k2, kw, hP, hD, hS, c1, c2, sp, hn0⟩ := M
    have hm := ex_get_mem hx
    refine row x H locs cells slots ls _ (hl.2.2 (i, .long x) (List.mem_map.mpr ⟨_, hm, rfl⟩)) ?_
    exact G1 ad H locs cells slots ls ⟨hl, k1, List.forall_mem_cons.mpr ⟨k1 _ hm, k2⟩, kw, hP, hD, hS, c1, c2, sp, hn0⟩
  next => cases ha
theorem ex_stA_s {pc1 : Nat} {L1 : ex_L} {st1 : List Value} {w1 : ex_W} {pcn i : Nat} (ha : ex_stA mi pcn L st w i = some (.inl (pc1, L1, st1, w1))) (G1 : ex_G p l e R s m args below meth c Q D cI cZ sa A mi mc ms n0 w9 pc1 L1 st1 w1)
    (row : ∀ (x : Nat) (lv : List (Nat × Value)) (H : Heap) (locs : List Loc) (cells slots : Nat) (ls : Array Slot) (rest : List Value), lv_has ls (kL mi) lv → i < kL mi → (∀ ls1 : Array Slot, lv_has ls1 (kL mi) ((i, Value.ref x) :: lv.filter (fun q => !(q.1 == i) && !(q.1 + 1 == i && q.2.category == 2))) → W p l e R s m args below meth c H locs cells slots Q (F0 m pcn ls1 rest)) → W p l e R s m args below meth c H locs cells slots Q (F0 m pc ls (.ref x :: rest))) : ex_G p l e R s m args below meth c Q D cI cZ sa A mi mc ms n0 w9 pc L st w := by
  intro ad H locs cells slots ls M
  unfold ex_stA at ha
  split at ha
  next x r =>
    split at ha
    next hi =>
      cases ha
      obtain ⟨hl, k1, k2, kw, hP, hD, hS, c1, c2, sp, hn0⟩ := M
      have k3 := List.forall_mem_cons.mp k2
      refine row (ad x) _ H locs cells slots ls _ hl hi fun ls1 h1 => ?_
      exact G1 ad H locs cells slots ls1 ⟨ex_st1 (v := .ref x) rfl h1, ex_set_ok k1 k3.1, k3.2, kw, hP, hD, hS, c1, c2, sp, hn0⟩
    next => cases ha
  next => cases ha
theorem ex_stI_s {pc1 : Nat} {L1 : ex_L} {st1 : List Value} {w1 : ex_W} {pcn i : Nat} (ha : ex_stI mi pcn L st w i = some (.inl (pc1, L1, st1, w1))) (G1 : ex_G p l e R s m args below meth c Q D cI cZ sa A mi mc ms n0 w9 pc1 L1 st1 w1)
    (row : ∀ (x : Int32) (lv : List (Nat × Value)) (H : Heap) (locs : List Loc) (cells slots : Nat) (ls : Array Slot) (rest : List Value), lv_has ls (kL mi) lv → i < kL mi → (∀ ls1 : Array Slot, lv_has ls1 (kL mi) ((i, Value.int x) :: lv.filter (fun q => !(q.1 == i) && !(q.1 + 1 == i && q.2.category == 2))) → W p l e R s m args below meth c H locs cells slots Q (F0 m pcn ls1 rest)) → W p l e R s m args below meth c H locs cells slots Q (F0 m pc ls (.int x :: rest))) : ex_G p l e R s m args below meth c Q D cI cZ sa A mi mc ms n0 w9 pc L st w := by
  intro ad H locs cells slots ls M
  unfold ex_stI at ha
  split at ha
  next x r =>
    split at ha
    next hi =>
      cases ha
      obtain ⟨hl, k1, k2, kw, hP, hD, hS, c1, c2, sp, hn0⟩ := M
      have k3 := List.forall_mem_cons.mp k2
      refine row x _ H locs cells slots ls _ hl hi fun ls1 h1 => ?_
      exact G1 ad H locs cells slots ls1 ⟨ex_st1 (v := .int x) rfl h1, ex_set_ok k1 k3.1, k3.2, kw, hP, hD, hS, c1, c2, sp, hn0⟩
    next => cases ha
  next => cases ha
theorem ex_stJ_s {pc1 : Nat} {L1 : ex_L} {st1 : List Value} {w1 : ex_W} {pcn i : Nat} (ha : ex_stJ mi pcn L st w i = some (.inl (pc1, L1, st1, w1))) (G1 : ex_G p l e R s m args below meth c Q D cI cZ sa A mi mc ms n0 w9 pc1 L1 st1 w1)
    (row : ∀ (x : Int64) (lv : List (Nat × Value)) (H : Heap) (locs : List Loc) (cells slots : Nat) (ls : Array Slot) (rest : List Value), lv_has ls (kL mi) lv → i + 1 < kL mi → (∀ ls1 : Array Slot, lv_has ls1 (kL mi) ((i, Value.long x) :: lv.filter (fun q => !(q.1 == i) && (!(q.1 == i + 1) && !(q.1 + 1 == i && q.2.category == 2)))) → W p l e R s m args below meth c H locs cells slots Q (F0 m pcn ls1 rest)) → W p l e R s m args below meth c H locs cells slots Q (F0 m pc ls (.long x :: rest))) : ex_G p l e R s m args below meth c Q D cI cZ sa A mi mc ms n0 w9 pc L st w := by
  intro ad H locs cells slots ls M
  unfold ex_stJ at ha
  split at ha
  next x r =>
    split at ha
    next hi =>
      cases ha
      obtain ⟨hl, k1, k2, kw, hP, hD, hS, c1, c2, sp, hn0⟩ := M
      have k3 := List.forall_mem_cons.mp k2
      refine row x _ H locs cells slots ls _ hl hi fun ls1 h1 => ?_
      exact G1 ad H locs cells slots ls1 ⟨ex_st2 (v := .long x) rfl h1, ex_set_ok k1 k3.1, k3.2, kw, hP, hD, hS, c1, c2, sp, hn0⟩
    next => cases ha
  next => cases ha
/-- steps that change the stack alone -/
theorem ex_top_s {st1 : List Value} {pcn : Nat} (G1 : ex_G p l e R s m args below meth c Q D cI cZ sa A mi mc ms n0 w9 pcn L st1 w) (hok : ∀ n, (∀ v ∈ st, ex_ok n v) → ∀ v ∈ st1, ex_ok n v)
    (row : ∀ (ad : Nat → Nat) (H : Heap) (locs : List Loc) (cells slots : Nat) (ls : Array Slot), W p l e R s m args below meth c H locs cells slots Q (F0 m pcn ls (st1.map (ex_v ad))) → W p l e R s m args below meth c H locs cells slots Q (F0 m pc ls (st.map (ex_v ad)))) : ex_G p l e R s m args below meth c Q D cI cZ sa A mi mc ms n0 w9 pc L st w := by
  intro ad H locs cells slots ls M
  obtain ⟨hl, k1, k2, kw, hP, hD, hS, c1, c2, sp, hn0⟩ := M
  exact row ad H locs cells slots ls (G1 ad H locs cells slots ls ⟨hl, k1, hok _ k2, kw, hP, hD, hS, c1, c2, sp, hn0⟩)
end EXS
