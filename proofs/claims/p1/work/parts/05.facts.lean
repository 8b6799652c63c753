/-! what the tables rest on: each entry by its place among the words -/
def kWS : List Cond := lw_tbl.filter goodWord
def kNW : List Cond := lw_tbl.filter (fun w => match w with | .fieldLinkNest _ _ _ _ _ _ => true | _ => false)
/-- the word stands at this place, and is one that stays -/
def kAt (i : Nat) (w : Cond) : Bool := decide (lw_tbl[i]? = some w) && goodWord w
theorem kAt_s {i : Nat} {w : Cond} (h : kAt i w = true) : w ∈ kWS := by
  obtain ⟨h1, h2⟩ := (Bool.and_eq_true _ _).mp h
  exact List.mem_filter.mpr ⟨List.mem_of_getElem? (of_decide_eq_true h1), h2⟩
theorem kWS_good : GoodIn kWS kWS := fun w hw => ⟨hw, good_of_word (List.mem_filter.mp hw).2⟩
theorem ex_lk_mem {α : Type} : ∀ {l : List (Nat × α)} {i : Nat} {v : α}, ex_lk l i = some v → (i, v) ∈ l := by
  intro l
  induction l with
  | nil => intro i v h; cases h
  | cons q t ih =>
    intro i v h
    rw [ex_lk] at h
    split at h
    next hq =>
      cases h
      subst hq
      exact List.mem_cons_self
    next => exact List.mem_cons_of_mem _ (ih h)
theorem k_all {α : Type} {l : List (List α)} {f : Nat → α → Bool} (h : ((List.range 16).all (fun o => (l.getD o []).all (f o))) = true) (h16 : l.length = 16) {o : Nat} {q : α} (hq : q ∈ l.getD o []) : f o q = true := by
  have ho : o < 16 := by
    rcases Nat.lt_or_ge o 16 with z | z
    · exact z
    · rw [List.getD_eq_getElem?_getD, List.getElem?_eq_none (by omega)] at hq
      cases hq
  exact List.all_eq_true.mp (List.all_eq_true.mp h o (List.mem_range.mpr ho)) q hq
def kFok (o : Nat) (q : Nat × Nat × Nat × Bool × Nat) : Bool := match kCl[q.2.1]? with
  | some r => decide (q.2.2.1 < r.2.2) && (match q.2.2.2.1 with
    | false => kAt q.2.2.2.2 (.fieldLink (kOn o) q.1 (r.2.1 q.2.2.1).1 (r.2.1 q.2.2.1).2.1 (r.2.1 q.2.2.1).2.2.1)
    | true => decide (lw_tbl[q.2.2.2.2]? = some (.fieldLinkNest (kOn o) q.1 (r.2.1 q.2.2.1).1 (r.2.1 q.2.2.1).2.1 (r.2.1 q.2.2.1).2.2.1 "ExactLoom")))
  | none => false
set_option maxRecDepth 100000 in
theorem kFall : ((List.range 16).all (fun o => (kFl.getD o []).all (kFok o))) = true := by decide +kernel
theorem kt_F {o idx ci k : Nat} {nest : Bool} (h : kF o idx = some (ci, k, nest)) : ∃ C T N, kCl[ci]? = some (C, T, N) ∧ k < N ∧ (nest = false → Cond.fieldLink (kOn o) idx (T k).1 (T k).2.1 (T k).2.2.1 ∈ kWS) ∧ (nest = true → ∃ host, Cond.fieldLinkNest (kOn o) idx (T k).1 (T k).2.1 (T k).2.2.1 host ∈ kNW) := by
  unfold kF at h
  cases hq : ex_lk (kFl.getD o []) idx with
  | none => rw [hq] at h; cases h
  | some q =>
    rw [hq] at h
    obtain ⟨c2, k2, n2, p2⟩ := q
    cases h
    have h1 := k_all kFall rfl (ex_lk_mem hq)
    unfold kFok at h1
    dsimp only at h1
    split at h1
    next r hr =>
      obtain ⟨C, T, N⟩ := r
      obtain ⟨h2, h3⟩ := (Bool.and_eq_true _ _).mp h1
      refine ⟨C, T, N, hr, of_decide_eq_true h2, ?_, ?_⟩
      · intro hn
        subst hn
        exact kAt_s h3
      · intro hn
        subst hn
        exact ⟨"ExactLoom", List.mem_filter.mpr ⟨List.mem_of_getElem? (of_decide_eq_true h3), rfl⟩⟩
    next => cases h1
def kIlok (o : Nat) (q : Nat × Int32 × Nat) : Bool := kAt q.2.2 (Cond.constant (kOn o) q.1 q.2.1)
set_option maxRecDepth 100000 in
theorem kIl_all : ((List.range 16).all (fun o => (kIl.getD o []).all (kIlok o))) = true := by decide +kernel
theorem kt_I {o idx : Nat} {v : Int32} (h : kI o idx = some v) : Cond.constant (kOn o) idx v ∈ kWS := by
  unfold kI at h
  cases hq : ex_lk (kIl.getD o []) idx with
  | none => rw [hq] at h; cases h
  | some q =>
    rw [hq] at h
    obtain ⟨v2, p2⟩ := q
    cases h
    exact kAt_s (k_all (f := kIlok) kIl_all rfl (ex_lk_mem hq))
def kJlok (o : Nat) (q : Nat × Int64 × Nat) : Bool := kAt q.2.2 (Cond.constantLong (kOn o) q.1 q.2.1)
set_option maxRecDepth 100000 in
theorem kJl_all : ((List.range 16).all (fun o => (kJl.getD o []).all (kJlok o))) = true := by decide +kernel
theorem kt_J {o idx : Nat} {v : Int64} (h : kJ o idx = some v) : Cond.constantLong (kOn o) idx v ∈ kWS := by
  unfold kJ at h
  cases hq : ex_lk (kJl.getD o []) idx with
  | none => rw [hq] at h; cases h
  | some q =>
    rw [hq] at h
    obtain ⟨v2, p2⟩ := q
    cases h
    exact kAt_s (k_all (f := kJlok) kJl_all rfl (ex_lk_mem hq))
def kSlok (o : Nat) (q : Nat × Nat × Nat) : Bool := decide (q.2.1 < nS) && (match kSR[q.2.1]? with | some r => decide (r.1 = kOn o ∧ r.2.1 = q.1 ∧ r.2.2.2 = q.2.1) | none => false)
set_option maxRecDepth 100000 in
theorem kSl_all : ((List.range 16).all (fun o => (kSl.getD o []).all (kSlok o))) = true := by decide +kernel
theorem kt_S {o idx j : Nat} (h : kS o idx = some j) : j < nS ∧ ∃ tx, (kOn o, idx, tx, j) ∈ kSR := by
  unfold kS at h
  cases hq : ex_lk (kSl.getD o []) idx with
  | none => rw [hq] at h; cases h
  | some q =>
    rw [hq] at h
    obtain ⟨v2, p2⟩ := q
    cases h
    have h1 := k_all (f := kSlok) kSl_all rfl (ex_lk_mem hq)
    unfold kSlok at h1
    obtain ⟨h2, h3⟩ := (Bool.and_eq_true _ _).mp h1
    refine ⟨of_decide_eq_true h2, ?_⟩
    dsimp only at h3
    split at h3
    next r hr =>
      obtain ⟨a1, a2, a3, a4⟩ := r
      obtain ⟨e1, e2, e3⟩ := of_decide_eq_true h3
      dsimp only at e1 e2 e3
      subst e1; subst e2; subst e3
      exact ⟨a3, List.mem_of_getElem? hr⟩
    next => cases h3
def kZlok (o : Nat) (q : Nat × Nat × Nat) : Bool := if q.2.1 = 0 then kAt q.2.2 (.fieldLink (kOn o) q.1 "java/lang/String" "COMPACT_STRINGS" "Z") else kAt q.2.2 (.fieldLink (kOn o) q.1 "jdk/internal/util/Preconditions" "SIOOBE_FORMATTER" "Ljava/util/function/BiFunction;")
set_option maxRecDepth 100000 in
theorem kZl_all : ((List.range 16).all (fun o => (kZl.getD o []).all (kZlok o))) = true := by decide +kernel
theorem kt_Z {o idx z : Nat} (h : kZ o idx = some z) : (z = 0 → Cond.fieldLink (kOn o) idx "java/lang/String" "COMPACT_STRINGS" "Z" ∈ kWS) ∧ (¬ z = 0 → Cond.fieldLink (kOn o) idx "jdk/internal/util/Preconditions" "SIOOBE_FORMATTER" "Ljava/util/function/BiFunction;" ∈ kWS) := by
  unfold kZ at h
  cases hq : ex_lk (kZl.getD o []) idx with
  | none => rw [hq] at h; cases h
  | some q =>
    rw [hq] at h
    obtain ⟨v2, p2⟩ := q
    cases h
    have h1 := k_all (f := kZlok) kZl_all rfl (ex_lk_mem hq)
    unfold kZlok at h1
    dsimp only at h1
    refine ⟨fun hz => ?_, fun hz => ?_⟩
    · rw [if_pos hz] at h1
      exact kAt_s h1
    · rw [if_neg hz] at h1
      exact kAt_s h1
def kGlok (o : Nat) (q : Nat × Bool × Nat) : Bool := match q.2.1 with | true => kAt q.2.2 (.fieldLink (kOn o) q.1 "java/lang/String" "value" "[B") | false => kAt q.2.2 (.fieldLink (kOn o) q.1 "java/lang/String" "coder" "B")
set_option maxRecDepth 100000 in
theorem kGl_all : ((List.range 16).all (fun o => (kGl.getD o []).all (kGlok o))) = true := by decide +kernel
theorem kt_G {o idx : Nat} {z : Bool} (h : kG o idx = some z) : (z = true → Cond.fieldLink (kOn o) idx "java/lang/String" "value" "[B" ∈ kWS) ∧ (z = false → Cond.fieldLink (kOn o) idx "java/lang/String" "coder" "B" ∈ kWS) := by
  unfold kG at h
  cases hq : ex_lk (kGl.getD o []) idx with
  | none => rw [hq] at h; cases h
  | some q =>
    rw [hq] at h
    obtain ⟨v2, p2⟩ := q
    cases h
    have h1 := k_all (f := kGlok) kGl_all rfl (ex_lk_mem hq)
    unfold kGlok at h1
    refine ⟨fun hz => ?_, fun hz => ?_⟩
    · subst hz; exact kAt_s h1
    · subst hz; exact kAt_s h1
def kIni : List Nat := [85, 86, 92, 89, 87, 91, 90, 88, 99]
def kIns : List Nat := [101, 109, 262, 173, 129, 238, 230, 137, 812]
def kNlok (o : Nat) (q : Nat × Nat × Nat) : Bool := match kCl[q.2.1]? with | some r => kAt q.2.2 (.classLink (kOn o) q.1 r.1) && (kAt (kIns.getD q.2.1 0) (.instantiable r.1 r.2.2) && kAt (kIni.getD q.2.1 0) (.initialized r.1)) | none => false
set_option maxRecDepth 100000 in
theorem kNl_all : ((List.range 16).all (fun o => (kNl.getD o []).all (kNlok o))) = true := by decide +kernel
theorem kt_N {o idx ci : Nat} (h : kN o idx = some ci) : ∃ C T N, kCl[ci]? = some (C, T, N) ∧ Cond.classLink (kOn o) idx C ∈ kWS ∧ Cond.instantiable C N ∈ kWS ∧ Cond.initialized C ∈ kWS := by
  unfold kN at h
  cases hq : ex_lk (kNl.getD o []) idx with
  | none => rw [hq] at h; cases h
  | some q =>
    rw [hq] at h
    obtain ⟨v2, p2⟩ := q
    cases h
    have h1 := k_all (f := kNlok) kNl_all rfl (ex_lk_mem hq)
    unfold kNlok at h1
    dsimp only at h1
    split at h1
    next r hr =>
      obtain ⟨C, T, N⟩ := r
      obtain ⟨h2, h3⟩ := (Bool.and_eq_true _ _).mp h1
      obtain ⟨h4, h5⟩ := (Bool.and_eq_true _ _).mp h3
      exact ⟨C, T, N, hr, kAt_s h2, kAt_s h4, kAt_s h5⟩
    next => cases h1
def kLay : List (List Nat) := [[520, 522, 524, 526, 528, 530], [122, 124], [274, 276, 278], [184, 186, 188, 190, 192, 194], [208, 210, 212, 214, 216, 218, 220, 222, 224, 226], [245, 247], [254, 256, 258], [153, 155, 157, 159, 161, 163, 165, 167, 169], [933, 935, 937, 939, 941, 943, 945, 947, 949, 951, 953, 955, 957, 959, 961, 963, 965, 967, 969, 971, 973, 975, 977, 979, 981, 983, 985, 987, 989]]
def kCok (ci : Nat) (r : vw_C) : Bool := (List.range r.2.2).all (fun k => kAt ((kLay.getD ci []).getD k 0) (u_lay r.1 r.2.1 k) && (decide (parseFieldDescriptor (r.2.1 k).2.2.1 = some (kT ci k)) && (decide ((r.2.1 k).2.2.2 = kQ ci k ∧ (r.2.1 k).1 = kOn (kD ci)) && (decide (defaultValue (kT ci k) = vp_V (kB ci) k) && (List.range r.2.2).all (fun j => decide (k = j ∨ (r.2.1 k).2.1 ≠ (r.2.1 j).2.1)))))) && (decide ((kB ci).length = r.2.2) && (kB ci).all (fun v => match v with | .ref _ => false | .retAddr _ => false | _ => true))
set_option maxRecDepth 100000 in
theorem kCl_all : (List.range 9).all (fun ci => match kCl[ci]? with | some r => kCok ci r | none => false) = true := by decide +kernel
theorem kt_C {ci : Nat} {C : String} {T : u_T} {N : Nat} (h : kCl[ci]? = some (C, T, N)) : (∀ w ∈ u_ws C T N, w ∈ kWS) ∧ (∀ k, k < N → parseFieldDescriptor (T k).2.2.1 = some (kT ci k)) ∧ (∀ a, a < N → ∀ b, b < N → a ≠ b → (T a).2.1 ≠ (T b).2.1) ∧ (∀ k, k < N → (T k).2.2.2 = kQ ci k ∧ (T k).1 = kOn (kD ci)) ∧ (kB ci).length = N ∧ (∀ j, j < N → defaultValue (kT ci j) = vp_V (kB ci) j) ∧ (∀ v ∈ kB ci, ex_ok 0 v ∧ ∀ ad, ex_v ad v = v) := by
  have hci : ci < 9 := (List.getElem?_eq_some_iff.mp h).1
  have h1 := List.all_eq_true.mp kCl_all ci (List.mem_range.mpr hci)
  rw [h] at h1
  unfold kCok at h1
  dsimp only at h1
  obtain ⟨h2, h3⟩ := (Bool.and_eq_true _ _).mp h1
  obtain ⟨h4, h5⟩ := (Bool.and_eq_true _ _).mp h3
  have key : ∀ k, k < N → kAt ((kLay.getD ci []).getD k 0) (u_lay C T k) = true ∧ parseFieldDescriptor (T k).2.2.1 = some (kT ci k) ∧ ((T k).2.2.2 = kQ ci k ∧ (T k).1 = kOn (kD ci)) ∧ defaultValue (kT ci k) = vp_V (kB ci) k ∧ ∀ j, j < N → (k = j ∨ (T k).2.1 ≠ (T j).2.1) := by
    intro k hk
    have a1 := List.all_eq_true.mp h2 k (List.mem_range.mpr hk)
    obtain ⟨b1, a2⟩ := (Bool.and_eq_true _ _).mp a1
    obtain ⟨b2, a3⟩ := (Bool.and_eq_true _ _).mp a2
    obtain ⟨b3, a4⟩ := (Bool.and_eq_true _ _).mp a3
    obtain ⟨b4, a5⟩ := (Bool.and_eq_true _ _).mp a4
    exact ⟨b1, of_decide_eq_true b2, of_decide_eq_true b3, of_decide_eq_true b4, fun j hj => of_decide_eq_true (List.all_eq_true.mp a5 j (List.mem_range.mpr hj))⟩
  refine ⟨fun w hw => ?_, fun k hk => (key k hk).2.1, fun a ha b hb hne => ((key a ha).2.2.2.2 b hb).resolve_left hne, fun k hk => (key k hk).2.2.1, of_decide_eq_true h4, fun j hj => (key j hj).2.2.2.1, fun v hv => ?_⟩
  · obtain ⟨k, hk, rfl⟩ := List.mem_map.mp hw
    exact kAt_s (key k (List.mem_range.mp hk)).1
  · have a1 := List.all_eq_true.mp h5 v hv
    cases v with
    | ref k => cases a1
    | retAddr k => cases a1
    | _ => exact ⟨trivial, fun _ => rfl⟩
theorem kt_A0 : Cond.arrayClass (newarray.typeOf .int) ∈ kWS := kAt_s (i := 127) (by decide +kernel)
theorem kt_A1 : Cond.arrayClass (newarray.typeOf .boolean) ∈ kWS := kAt_s (i := 992) (by decide +kernel)
