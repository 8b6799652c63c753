/-! THE CLAIM OUT OF ONE WALK OF THE LAW'S BODY. Your part is whole_start (and what it stands on); all else here is the same for every law, but numbers. -/
def R_law : String := "ExactLoomLaw"
def lw_P (b : Addr) (xs : List Int32) (args : Array Value) (s : State) : Prop := args = #[.ref b] ∧ s.IntsAt b xs ∧ xs.length ≤ 3 ∧ (Jvm.Cond.and given_1 narrow_1).before args s = true
def lw_Q (_ : Array Value) (s : State) (o : Outcome) (t : State) : Prop := o = .returned (some (.int 1)) ∧ Framed s o t [] 600000 7302250
def lw_Z (below : List Frame) (a : Array Value) (s : State) : State → Prop := fun t => ∃ o, t.status = .running ∧ Ended t below o ∧ lw_Q a s o t
/-- the law's own end, with 1 on the stack, nothing written that was there before, its room as the claim has it -/
theorem lw_ret {p : Program} {l : Launch} {e : Env} {s : State} {m : MethodId} {below : List Frame} {meth : Method} {c : Code} {b : Nat} (hx : p.tables.exec = Jvm.exec) (hb : c.code = code) (hr : meth.sig.returnType = ret) (hlocks : meth.locks = false) {pc : Nat} {H : Heap} {ls : Array Slot} (hdg : decode code pc = .ok (.ireturn, 1)) : W p l e room_1 s m #[Value.ref b] below meth c H [] 600000 7302250 (lw_Z below #[Value.ref b] s) (F0 m pc ls [.int 1]) := by
  intro T hT X
  obtain ⟨fs, hret, hrun, hended, hW, hframe⟩ := X.leave (v := some (.int 1)) (hlocks := hlocks) (fun h => by rw [hr] at h; cases h)
  have hmeth' : T.vm.method? m = some meth := X.method'
  refine ⟨T.setFrames fs, ?_, .returned (some (.int 1)), hrun, hended, rfl, ⟨_, rfl⟩, hW, hframe⟩
  jvm_step X.here [X.here.top, hx, hb, hdg, hmeth', hr, ret, narrow_b1]
  (try refine ⟨rfl, ?_⟩); (try refine ⟨rfl, ?_⟩)
  first | (intro acts; rw [hret _ acts rfl rfl rfl]) | rw [hret _ _ rfl rfl rfl]
  exact Steps.refl _
/-- what holds at the law's entry: the machine, the code, the tables' words (any of lw_tbl by 'hts w (by decide +kernel)'), the script of L ints xs at the cell b, what the Statement gives of the start (any of its parts by flat_of_before) -/
def lw_At (p : Program) (s : State) (m : MethodId) (meth : Method) (c : Code) (b L : Nat) (xs : Nat → Int32) : Prop :=
  p.tables.exec = Jvm.exec ∧ c.code = code ∧ meth.sig.returnType = ret ∧ c.maxLocals = 4 ∧ s.vm.findClass R_law = some m.cls ∧ (∀ w ∈ lw_tbl, w.before #[Value.ref b] s = true) ∧ va_X b L xs s s.heap ∧ b < s.heap.size ∧ meth.locks = false ∧ (Jvm.Cond.and given_1 narrow_1).before #[Value.ref b] s = true
def kNar : List Cond := flatC (Jvm.Cond.and given_1 narrow_1)
def kSp : List Nat := [176, 200, 208, 217, 226, 235, 245, 254, 186, 192, 265, 9, 18, 25, 33, 41, 49, 166, 58, 66, 154, 161, 71, 78, 86, 94, 101, 108, 115, 123, 131, 139, 146]
def kTm (j : Nat) : Term := match kSR[j]? with
  | some q => .string q.1 q.2.1
  | none => .int 0
def kNok (j : Nat) : Bool := decide (kNar[kSp.getD j 0]? = some (.exactly (kTm j) "java/lang/String")) && (decide (kNar[kSp.getD j 0 + 1]? = some (.eq (.field (kTm j) "java/lang/String" "coder" "B") (.int 0))) && (decide (kNar[kSp.getD j 0 + 2]? = some (.arrayOf (.field (kTm j) "java/lang/String" "value" "[B") .byte)) && (decide (kNar[kSp.getD j 0 + 3]? = some (.eq (.length (.field (kTm j) "java/lang/String" "value" "[B")) (.int (Int32.ofNat (kX j).length)))) && (decide ((kX j).length < 100) && (List.range (kX j).length).all (fun i => decide (kNar[kSp.getD j 0 + 4 + i]? = some (.eq (.elem (.field (kTm j) "java/lang/String" "value" "[B") (.int (Int32.ofNat i))) (.int ((kX j).getD i 0)))))))))
set_option maxRecDepth 100000 in
theorem kNok_all : (List.range nS).all kNok = true := by decide +kernel
def kRp : List Nat := [594, 727, 728, 729, 730, 735, 736, 737, 625, 640, 764, 320, 400, 406, 421, 422, 427, 513, 432, 433, 507, 508, 493, 494, 495, 496, 497, 498, 499, 500, 501, 502, 503]
def kRok (j : Nat) : Bool := match kSR[j]? with
  | some q => decide (lw_tbl[kRp.getD j 0]? = some (.stringRef q.1 q.2.1 q.2.2.1)) && decide (q.2.2.2 = j)
  | none => false
set_option maxRecDepth 100000 in
theorem kRok_all : (List.range nS).all kRok = true := by decide +kernel
theorem kSR_len : kSR.length = nS := by decide +kernel
def kIok (ci : Nat) : Bool := match kCl[ci]? with
  | some r => kAt (kIns.getD ci 0) (.instantiable r.1 r.2.2)
  | none => false
set_option maxRecDepth 100000 in
theorem kIok_all : (List.range 9).all kIok = true := by decide +kernel
theorem kCl_len : kCl.length = 9 := rfl
theorem ex_arr {args : Array Value} {s : State} {ty : FieldType} (h : (Cond.arrayClass ty).before args s = true) : ∃ cA : ClassId, s.vm.findClass ("[" ++ ty.toString) = some cA ∧ ArrOfT s cA ty := by
  obtain ⟨cA, kA, comp, h1, h2, h3⟩ := Cond.arrayClass_spec h
  exact ⟨cA, h1, fun n z => ⟨fun k h => (by cases h), kA, h2, comp, h3⟩⟩
set_option maxHeartbeats 4000000 in
/-- the start: what stands outside, out of what the Statement gives -/
theorem ex_K0 {s : State} {b : Nat} {X : List Int32} (hts : ∀ w ∈ lw_tbl, w.before #[Value.ref b] s = true) (hX : va_X b X.length (fun j => X.getD j 0) s s.heap) (hbl : b < s.heap.size) (hgv : (Jvm.Cond.and given_1 narrow_1).before #[Value.ref b] s = true) : ∃ (D : va_G) (cI cZ : ClassId) (sa : Nat → Nat), sa 1000 = b ∧ ex_K D cI cZ sa (some X) (fun q => s.heap.size ≤ q) s := by
  have hn : ∀ w ∈ kNar, w.before #[Value.ref b] s = true := flat_of_before _ hgv
  have hw : ∀ w ∈ kWS, w.before #[Value.ref b] s = true := fun w h => hts w (List.mem_filter.mp h).1
  have hA : ∀ a : Nat, a < s.heap.size → ¬ (s.heap.size ≤ a) := fun a h z => by omega
  have hk : ∀ ci : Nat, ∃ q : ClassId × (Nat → Nat), ∀ r : vw_C, kCl[ci]? = some r → u_Kn s r.1 r.2.1 r.2.2 q.1 q.2 := by
    intro ci
    cases hc : kCl[ci]? with
    | none => exact ⟨(0, fun _ => 0), fun r h => by cases h⟩
    | some r =>
      obtain ⟨C, T, N⟩ := r
      have hl : ci < 9 := (List.getElem?_eq_some_iff.mp hc).1
      have h1 := List.all_eq_true.mp kIok_all ci (List.mem_range.mpr hl)
      unfold kIok at h1
      rw [hc] at h1
      obtain ⟨cC, iS, h2⟩ := u_known (args := #[Value.ref b]) (s := s) hw (kt_C hc).1 (hw _ (kAt_s h1))
      exact ⟨(cC, iS), fun r h => by cases h; exact h2⟩
  obtain ⟨dq, hdq⟩ := Classical.axiomOfChoice hk
  obtain ⟨cI, hI1, hI2⟩ := ex_arr (hw _ kt_A0)
  obtain ⟨cZ, hZ1, hZ2⟩ := ex_arr (hw _ kt_A1)
  have h0 : ∀ j : Nat, ∃ q : Nat × Nat, j < nS → (kTm j).eval #[Value.ref b] s none [] s = some (.ref q.1) ∧ va_O "java/lang/String" q.1 (fun q => s.heap.size ≤ q) s s.heap ∧ va_OF "java/lang/String" "coder" "B" (.int 0) q.1 (fun q => s.heap.size ≤ q) s s.heap ∧ va_OF "java/lang/String" "value" "[B" (.ref q.2) q.1 (fun q => s.heap.size ≤ q) s s.heap ∧ va_T .byte q.2 (kX j).length (fun i => .int ((kX j).getD i 0)) (fun q => s.heap.size ≤ q) s s.heap := by
    intro j
    by_cases hj : j < nS
    · have h1 := List.all_eq_true.mp kNok_all j (List.mem_range.mpr hj)
      unfold kNok at h1
      obtain ⟨a1, h2⟩ := (Bool.and_eq_true _ _).mp h1
      obtain ⟨a2, h3⟩ := (Bool.and_eq_true _ _).mp h2
      obtain ⟨a3, h4⟩ := (Bool.and_eq_true _ _).mp h3
      obtain ⟨a4, h5⟩ := (Bool.and_eq_true _ _).mp h4
      obtain ⟨a5, a6⟩ := (Bool.and_eq_true _ _).mp h5
      have b1 := hn _ (List.mem_of_getElem? (of_decide_eq_true a1))
      have b2 := hn _ (List.mem_of_getElem? (of_decide_eq_true a2))
      have b3 := hn _ (List.mem_of_getElem? (of_decide_eq_true a3))
      have b4 := hn _ (List.mem_of_getElem? (of_decide_eq_true a4))
      have b5 := of_decide_eq_true a5
      obtain ⟨a, c, cA, kA, q1, q2, q3, q4, q5, q6, -⟩ := Cond.exactly_spec (args := #[Value.ref b]) (first := s) (o := none) (s := s) (idx := []) (t := kTm j) (cls := "java/lang/String") b1
      obtain ⟨t, ht, hT⟩ := va_Tof (f := fun i => .int ((kX j).getD i 0)) (A := fun q => s.heap.size ≤ q) (by omega) b3 (va_eqt b4) (fun i hi => va_eqt (hn _ (List.mem_of_getElem? (of_decide_eq_true (List.all_eq_true.mp a6 i (List.mem_range.mpr hi)))))) hA
      exact ⟨(a, t), fun _ => ⟨q1, ⟨cA, q3, q5, by rw [q6]; exact q2, hA a (Array.getElem?_eq_some_iff.mp q3).1⟩, vk_OFof q1 (va_eqt b2) hA, vk_OFof q1 ht hA, hT⟩⟩
    · exact ⟨(0, 0), fun h => absurd h hj⟩
  obtain ⟨da, hda⟩ := Classical.axiomOfChoice h0
  have hfm : ∃ f : Nat, va_Z "jdk/internal/util/Preconditions" "SIOOBE_FORMATTER" "Ljava/util/function/BiFunction;" (ex_fm f) (fun q => s.heap.size ≤ q) s s.heap := by
    rcases va_Zqof (args := #[Value.ref b]) (s := s) (C := "jdk/internal/util/Preconditions") (n := "SIOOBE_FORMATTER") (d := "Ljava/util/function/BiFunction;") (A := fun q => s.heap.size ≤ q) (hts _ (List.mem_of_getElem? (i := 350) (by decide +kernel))) (hts _ (List.mem_of_getElem? (i := 96) (by decide +kernel))) (hn _ (List.mem_of_getElem? (i := 5) (by decide +kernel))) hA with h | ⟨t, h⟩
    · exact ⟨0, h⟩
    · exact ⟨t + 1, h⟩
  obtain ⟨fm, hfm⟩ := hfm
  have hcs : va_Z "java/lang/String" "COMPACT_STRINGS" "Z" (.int 1) (fun q => s.heap.size ≤ q) s s.heap := va_Zof (args := #[Value.ref b]) (hts _ (List.mem_of_getElem? (i := 334) (by decide +kernel))) (hts _ (List.mem_of_getElem? (i := 94) (by decide +kernel))) (va_eqt (hn _ (List.mem_of_getElem? (i := 4) (by decide +kernel)))) hA
  refine ⟨(fun c => (dq c).1, fun c => (dq c).2), cI, cZ, fun k => if k = 1000 then b else if k = 3000 then fm else if k < 2001 then (da (k - 1001)).1 else (da (k - 2001)).2, rfl, ⟨fun c q hq => hdq c q hq, fun k q hq => ?_⟩, fun w hwn => ?_, fun j hj => ?_, fun q hq => ?_, hcs, ?_, fun xs hx => ?_⟩
  · cases k with
    | zero => cases hq; exact ⟨hI2, hI1⟩
    | succ k => cases k with
      | zero => cases hq; exact ⟨hZ2, hZ1⟩
      | succ k => cases hq
  · obtain ⟨a, i, bb, n, d, hh, rfl⟩ := ex_NW_s hwn
    exact va_Nw.of rfl (hts _ (List.mem_filter.mp hwn).1)
  · have hj2 : j < 33 := hj
    have e1 : (if 1001 + j = 1000 then b else if 1001 + j = 3000 then fm else if 1001 + j < 2001 then (da (1001 + j - 1001)).1 else (da (1001 + j - 2001)).2) = (da j).1 := by
      rw [if_neg (by omega), if_neg (by omega), if_pos (by omega), show 1001 + j - 1001 = j by omega]
    have e2 : (if 2001 + j = 1000 then b else if 2001 + j = 3000 then fm else if 2001 + j < 2001 then (da (2001 + j - 1001)).1 else (da (2001 + j - 2001)).2) = (da j).2 := by
      rw [if_neg (by omega), if_neg (by omega), if_neg (by omega), show 2001 + j - 2001 = j by omega]
    dsimp only
    rw [e1, e2]
    exact (hda j hj).2
  · obtain ⟨j, hq⟩ := List.getElem?_of_mem hq
    have hj : j < nS := by rw [← kSR_len]; exact (List.getElem?_eq_some_iff.mp hq).1
    have hj2 : j < 33 := hj
    have h1 := List.all_eq_true.mp kRok_all j (List.mem_range.mpr hj)
    unfold kRok at h1
    rw [hq] at h1
    obtain ⟨a1, a2⟩ := (Bool.and_eq_true _ _).mp h1
    have a2 := of_decide_eq_true a2
    have h2 := (hda j hj).1
    unfold kTm at h2
    rw [hq] at h2
    have e1 : (if 1001 + j = 1000 then b else if 1001 + j = 3000 then fm else if 1001 + j < 2001 then (da (1001 + j - 1001)).1 else (da (1001 + j - 2001)).2) = (da j).1 := by
      rw [if_neg (by omega), if_neg (by omega), if_pos (by omega), show 1001 + j - 1001 = j by omega]
    dsimp only
    rw [a2, e1]
    exact vk_R.of (hts _ (List.mem_of_getElem? (of_decide_eq_true a1))) h2
  · exact hfm
  · cases hx
    exact ⟨hX, hbl, fun z => by have z : s.heap.size ≤ b := z; omega⟩
theorem ex_lawF : kC 0 = code ∧ kL 0 = 4 ∧ kR 0 = ret ∧ kOn (kO 0) = R_law ∧ kN0 0 = false := ⟨rfl, rfl, rfl, rfl, rfl⟩
theorem ex_lawR : kV 0 ≤ room_1.frames ∧ kW 0 ≤ room_1.locals ∧ 0 < kNM := by decide
/-- THE START: a run of the pure machine that answers 1 is all that is wanting -/
theorem ex_start {p : Program} {e : Env} {s : State} {m : MethodId} {below : List Frame} {meth : Method} {c : Code} (l : Launch) {b L : Nat} {xs : Nat → Int32} (C0 : lw_At p s m meth c b L xs) (hp : ∃ n w9, ex_run (some ((List.range L).map xs)) n 0 0 [(0, .ref 1000)] [] [] = some (some (.int 1), w9) ∧ w9.length ≤ 600000 ∧ ex_sl w9 ≤ 7302250) : W p l e room_1 s m #[Value.ref b] below meth c s.heap [] 0 0 (lw_Z below #[Value.ref b] s) (entryFrame m ([Value.ref b] : List Value).toArray 4) := by
  obtain ⟨hx, hb, hr, hml, hown, hts, hX, hbl, hlk, hgv⟩ := C0
  obtain ⟨n, w9, hrun, hc9, hs9⟩ := hp
  have hXl : ((List.range L).map xs).length = L := by rw [List.length_map, List.length_range]
  have hX2 : va_X b ((List.range L).map xs).length (fun j => ((List.range L).map xs).getD j 0) s s.heap := by
    rw [hXl]
    obtain ⟨scr, g1, g2, g3, g4, g5⟩ := hX
    refine ⟨scr, g1, g2, g3, g4, fun j hj => ?_⟩
    have e1 : ((List.range L).map xs).getD j 0 = xs j := by
      rw [List.getD_eq_getElem?_getD, List.getElem?_map, List.getElem?_range hj]
      rfl
    exact (g5 j hj).trans (congrArg (fun z => some (Value.int z)) e1.symm)
  obtain ⟨D, cI, cZ, sa, hsa, K⟩ := ex_K0 hts hX2 hbl hgv
  obtain ⟨f1, f2, f3, f4, f5⟩ := ex_lawF
  obtain ⟨r1, r2, r3⟩ := ex_lawR
  have F : ex_F 0 p s m meth c #[Value.ref b] := ⟨hx, hb.trans f1.symm, hml.trans f2.symm, hr.trans f3.symm, hlk, by rw [f4]; exact hown, fun w hw => hts w (List.mem_filter.mp hw).1, fun z => by rw [f5] at z; cases z⟩
  have hl := lv_entry ([Value.ref b] : List Value) (n := 4) (Nat.le_of_ble_eq_true rfl)
  rw [lg_entry_eq]
  generalize (lg_sl ([Value.ref b] : List Value) ++ List.replicate (4 - (lg_sl ([Value.ref b] : List Value)).length) Slot.unset).toArray = ls at hl ⊢
  have hl : lv_has ls (kL 0) ([(0, Value.ref 1000)].map (ex_q sa)) := by
    rw [f2]
    show lv_has ls 4 [(0, Value.ref (sa 1000))]
    rw [hsa]
    exact hl
  refine ex_snd l (some ((List.range L).map xs)) n 0 0 [(0, .ref 1000)] [] [] (some (.int 1)) w9 r3 hrun p e room_1 s m #[Value.ref b] below meth c (lw_Z below #[Value.ref b] s) D cI cZ sa (fun q => s.heap.size ≤ q) 600000 7302250 0 F K (fun q h => h) ⟨r1, r2⟩ (Nat.le_refl _) (Nat.le_refl _) ?_ sa s.heap [] 0 0 ls ⟨hl, ?_, fun v hv => (by cases hv), fun v hv => (by cases hv), ?_, ?_, va_S.rf, ?_, ?_, fun _ _ => rfl, Nat.le_refl _⟩
  · intro pc1 i hd hri ad H locs cells slots ls1 M
    obtain ⟨hl1, k1, k2, kw, hP1, hD1, hS1, c1, c2, sp, hn0⟩ := M
    unfold ex_ri at hri
    split at hri
    next v heq =>
      cases heq
      refine va_forget (fun q hq => hS1.2.2 q hq) ?_
      refine W.widen (k := 600000) (n := 7302250) (by omega) (by omega) ?_
      exact lw_ret hx hb hr hlk (by rw [← f1]; exact hd)
    next heq => cases heq
    next heq => cases heq
    next heq => cases heq
    next => cases hri
  · intro q hq
    rw [List.mem_singleton.mp hq]
    exact Or.inr (by decide)
  · intro k q hq
    cases hq
  · exact ⟨fun i j x y hi => (by cases hi), fun k q hq => (by cases hq)⟩
  · show 0 + w9.length ≤ 600000 + 0
    omega
  · show 0 + ex_sl w9 ≤ 7302250 + 0
    omega
