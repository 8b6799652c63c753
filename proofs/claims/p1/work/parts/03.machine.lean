/-! the pure machine: a world of numbered cells, frames as lists, steps by the decoded instruction -/
abbrev ex_C : Type := (Nat × List Value) ⊕ (Nat × List Int32)
abbrev ex_W : Type := List ex_C
abbrev ex_L : Type := List (Nat × Value)
abbrev ex_A : Type := (Nat × ex_L × List Value × ex_W) ⊕ (Option Value ⊕ (Nat × List Value × List Value))
abbrev ex_O : Type := Option (Option Value × ex_W)
def ex_get : ex_L → Nat → Option Value
  | [], _ => none
  | q :: t, i => if q.1 = i then some q.2 else ex_get t i
def ex_hit (i : Nat) (v : Value) (q : Nat × Value) : Bool := q.1 == i || (q.1 + 1 == i && q.2.category == 2) || (v.category == 2 && q.1 == i + 1)
def ex_ins : ex_L → Nat → Value → ex_L
  | [], i, v => [(i, v)]
  | q :: t, i, v => if i < q.1 then (i, v) :: q :: t else q :: ex_ins t i v
def ex_set (L : ex_L) (i : Nat) (v : Value) : ex_L := ex_ins (L.filter (fun q => !ex_hit i v q)) i v
def ex_keep (ks : List Nat) (L : ex_L) : ex_L := L.filter (fun q => ks.contains q.1)
/-- which of a frame's variables go on at a place where roads meet -/
def ex_tr (mi pc : Nat) (L : ex_L) : ex_L := match kK mi pc with
  | none => L
  | some ks => ex_keep ks L
def ex_gf (w : ex_W) (h ci k : Nat) : Option Value := match w[h]? with
  | some (.inl (cj, fs)) => if cj = ci then fs[k]? else none
  | _ => none
def ex_pf (w : ex_W) (h ci k : Nat) (v : Value) : Option ex_W := match w[h]? with
  | some (.inl (cj, fs)) => if cj = ci ∧ k < fs.length then some (w.set h (.inl (cj, fs.set k v))) else none
  | _ => none
def ex_al (w : ex_W) (a kd : Nat) (i : Int32) : Option Int32 := match w[a]? with
  | some (.inr (kj, xs)) => if kj = kd ∧ ¬ i < 0 then xs[i.toNatClampNeg]? else none
  | _ => none
def ex_as (w : ex_W) (a kd : Nat) (i x : Int32) : Option ex_W := match w[a]? with
  | some (.inr (kj, xs)) => if kj = kd ∧ ¬ i < 0 ∧ i.toNatClampNeg < xs.length then some (w.set a (.inr (kj, xs.set i.toNatClampNeg x))) else none
  | _ => none
def ex_an (w : ex_W) (a : Nat) : Option Int32 := match w[a]? with
  | some (.inr (_, xs)) => some (Int32.ofNat xs.length)
  | _ => none
def ex_pop (n : Nat) (st : List Value) : Option (List Value × List Value) := if n ≤ st.length then some ((st.take n).reverse, st.drop n) else none
def ex_len : Jvm.ClassFile.Instr → Nat
  | .aload _ => 2
  | .iload _ => 2
  | .lload _ => 2
  | .astore _ => 2
  | .istore _ => 2
  | .lstore _ => 2
  | .bipush _ => 2
  | .sipush _ => 3
  | .ldc _ => 2
  | .ldc2_w _ => 3
  | .iinc _ _ => 3
  | .getfield _ => 3
  | .putfield _ => 3
  | .getstatic _ => 3
  | .new _ => 3
  | .newarray _ => 2
  | .ifCond _ _ => 3
  | .if_icmp _ _ => 3
  | .goto _ => 3
  | .invokevirtual _ => 3
  | .invokestatic _ => 3
  | .invokespecial _ => 3
  | _ => 1
def ex_lok (i : Jvm.ClassFile.Instr) (len : Nat) : Bool := match i with
  | .tableswitch _ _ _ _ => true
  | .lookupswitch _ _ => true
  | _ => len == ex_len i
def ex_cb (c : Jvm.ClassFile.Cond) (x y : Int32) : Bool := match c with
  | .eq => decide (x = y)
  | .ne => decide (¬ x = y)
  | .lt => decide (x < y)
  | .ge => decide (y ≤ x)
  | .gt => decide (y < x)
  | .le => decide (x ≤ y)
def ex_j (pc : Nat) (off : Int) (L : ex_L) (st : List Value) (w : ex_W) : Option ex_A := if 0 ≤ (pc : Int) + off then some (.inl (((pc : Int) + off).toNat, L, st, w)) else none
def ex_br (pc : Nat) (off : Int) (cb : Bool) (L : ex_L) (st : List Value) (w : ex_W) : Option ex_A := if 0 ≤ (pc : Int) + off then some (.inl (if cb = true then ((pc : Int) + off).toNat else pc + 3, L, st, w)) else none
def ex_ldA (pc : Nat) (L : ex_L) (st : List Value) (w : ex_W) (i : Nat) : Option ex_A := match ex_get L i with
  | some (.ref x) => some (.inl (pc, L, .ref x :: st, w))
  | _ => none
def ex_ldI (pc : Nat) (L : ex_L) (st : List Value) (w : ex_W) (i : Nat) : Option ex_A := match ex_get L i with
  | some (.int x) => some (.inl (pc, L, .int x :: st, w))
  | _ => none
def ex_ldJ (pc : Nat) (L : ex_L) (st : List Value) (w : ex_W) (i : Nat) : Option ex_A := match ex_get L i with
  | some (.long x) => some (.inl (pc, L, .long x :: st, w))
  | _ => none
def ex_stA (mi pc : Nat) (L : ex_L) (st : List Value) (w : ex_W) (i : Nat) : Option ex_A := match st with
  | .ref x :: r => if i < kL mi then some (.inl (pc, ex_set L i (.ref x), r, w)) else none
  | _ => none
def ex_stI (mi pc : Nat) (L : ex_L) (st : List Value) (w : ex_W) (i : Nat) : Option ex_A := match st with
  | .int x :: r => if i < kL mi then some (.inl (pc, ex_set L i (.int x), r, w)) else none
  | _ => none
def ex_stJ (mi pc : Nat) (L : ex_L) (st : List Value) (w : ex_W) (i : Nat) : Option ex_A := match st with
  | .long x :: r => if i + 1 < kL mi then some (.inl (pc, ex_set L i (.long x), r, w)) else none
  | _ => none
def ex_ii (pc : Nat) (L : ex_L) (st : List Value) (w : ex_W) (f : Int32 → Int32 → Int32) : Option ex_A := match st with
  | .int y :: .int x :: r => some (.inl (pc, L, .int (f x y) :: r, w))
  | _ => none
def ex_jj (pc : Nat) (L : ex_L) (st : List Value) (w : ex_W) (f : Int64 → Int64 → Int64) : Option ex_A := match st with
  | .long y :: .long x :: r => some (.inl (pc, L, .long (f x y) :: r, w))
  | _ => none
def ex_ji (pc : Nat) (L : ex_L) (st : List Value) (w : ex_W) (f : Int64 → Int32 → Int64) : Option ex_A := match st with
  | .int y :: .long x :: r => some (.inl (pc, L, .long (f x y) :: r, w))
  | _ => none
/-- a switch by its table: the offset -/
def ex_sw (x : Int32) : List Int → Int → Int → Int
  | [], _, d => d
  | o :: t, lo, d => if x = Int32.ofInt lo then o else ex_sw x t (lo + 1) d
def ex_ls (x : Int32) : List (Int × Int) → Int → Int
  | [], d => d
  | q :: t, d => if x = Int32.ofInt q.1 then q.2 else ex_ls x t d
def ex_rc (w : ex_W) (h ci : Nat) : Bool := if ci = 999 then decide (1001 ≤ h ∧ h < 1001 + nS) else match w[h]? with
  | some (.inl (cj, _)) => decide (h < 1000) && cj == ci
  | _ => false
/-- the callee's room fits in the caller's -/
def ex_lv (mi mj : Nat) (av r : List Value) : Bool := decide (0 < mj ∧ mj < kNM ∧ kV mj + 1 ≤ kV mi ∧ kL mj + 19 + kW mj ≤ kW mi ∧ (lg_sl av).length ≤ kL mj ∧ (r.map Value.category).sum ≤ 8)
def ex_do (X : Option (List Int32)) (mi pc : Nat) (i : Jvm.ClassFile.Instr) (L : ex_L) (st : List Value) (w : ex_W) : Option ex_A :=
  match i with
  | .aload_n k => ex_ldA (pc + 1) L st w k
  | .aload k => ex_ldA (pc + 2) L st w k
  | .iload_n k => ex_ldI (pc + 1) L st w k
  | .iload k => ex_ldI (pc + 2) L st w k
  | .lload_n k => ex_ldJ (pc + 1) L st w k
  | .lload k => ex_ldJ (pc + 2) L st w k
  | .astore_n k => ex_stA mi (pc + 1) L st w k
  | .astore k => ex_stA mi (pc + 2) L st w k
  | .istore_n k => ex_stI mi (pc + 1) L st w k
  | .istore k => ex_stI mi (pc + 2) L st w k
  | .lstore_n k => ex_stJ mi (pc + 1) L st w k
  | .lstore k => ex_stJ mi (pc + 2) L st w k
  | .iconst n => some (.inl (pc + 1, L, .int (Int32.ofInt n) :: st, w))
  | .bipush n => some (.inl (pc + 2, L, .int (Int8.ofInt n).toInt32 :: st, w))
  | .sipush n => some (.inl (pc + 3, L, .int (Int16.ofInt n).toInt32 :: st, w))
  | .lconst n => some (.inl (pc + 1, L, .long (Int64.ofNat n) :: st, w))
  | .ldc idx => match kI (kO mi) idx with
    | some v => some (.inl (pc + 2, L, .int v :: st, w))
    | none => match kS (kO mi) idx with
      | some j => some (.inl (pc + 2, L, .ref (1001 + j) :: st, w))
      | none => none
  | .ldc2_w idx => match kJ (kO mi) idx with
    | some v => some (.inl (pc + 3, L, .long v :: st, w))
    | none => none
  | .iinc i n => match ex_get L i with
    | some (.int x) => if i < kL mi then some (.inl (pc + 3, ex_set L i (.int (x + Int32.ofInt n)), st, w)) else none
    | _ => none
  | .iadd => ex_ii (pc + 1) L st w (fun x y => x + y)
  | .isub => ex_ii (pc + 1) L st w (fun x y => x - y)
  | .imul => ex_ii (pc + 1) L st w (fun x y => x * y)
  | .iand => ex_ii (pc + 1) L st w (fun x y => x &&& y)
  | .ishl => ex_ii (pc + 1) L st w (fun x y => x <<< (y &&& 31))
  | .ishr => ex_ii (pc + 1) L st w (fun x y => x >>> (y &&& 31))
  | .idiv => match st with
    | .int y :: .int x :: r => if y = 0 then none else some (.inl (pc + 1, L, .int (x / y) :: r, w))
    | _ => none
  | .irem => match st with
    | .int y :: .int x :: r => if y = 0 then none else some (.inl (pc + 1, L, .int (x - x / y * y) :: r, w))
    | _ => none
  | .ineg => match st with
    | .int x :: r => some (.inl (pc + 1, L, .int (-x) :: r, w))
    | _ => none
  | .ladd => ex_jj (pc + 1) L st w (fun x y => x + y)
  | .lsub => ex_jj (pc + 1) L st w (fun x y => x - y)
  | .lmul => ex_jj (pc + 1) L st w (fun x y => x * y)
  | .lor => ex_jj (pc + 1) L st w (fun x y => x ||| y)
  | .lshl => ex_ji (pc + 1) L st w (fun x y => x <<< (y.toInt64 &&& 63))
  | .lshr => ex_ji (pc + 1) L st w (fun x y => x >>> (y.toInt64 &&& 63))
  | .ldiv => match st with
    | .long y :: .long x :: r => if y = 0 then none else some (.inl (pc + 1, L, .long (x / y) :: r, w))
    | _ => none
  | .lrem => match st with
    | .long y :: .long x :: r => if y = 0 then none else some (.inl (pc + 1, L, .long (x - x / y * y) :: r, w))
    | _ => none
  | .lneg => match st with
    | .long x :: r => some (.inl (pc + 1, L, .long (-x) :: r, w))
    | _ => none
  | .lcmp => match st with
    | .long y :: .long x :: r => some (.inl (pc + 1, L, .int (lg_cmp x y) :: r, w))
    | _ => none
  | .i2l => match st with
    | .int x :: r => some (.inl (pc + 1, L, .long x.toInt64 :: r, w))
    | _ => none
  | .l2i => match st with
    | .long x :: r => some (.inl (pc + 1, L, .int x.toInt32 :: r, w))
    | _ => none
  | .i2b => match st with
    | .int x :: r => some (.inl (pc + 1, L, .int x.toInt8.toInt32 :: r, w))
    | _ => none
  | .i2c => match st with
    | .int x :: r => some (.inl (pc + 1, L, .int (x.toUInt32 % 65536).toInt32 :: r, w))
    | _ => none
  | .dup => match st with
    | v :: r => if v.category = 1 then some (.inl (pc + 1, L, v :: v :: r, w)) else none
    | _ => none
  | .dup_x1 => match st with
    | v :: u :: r => if v.category = 1 ∧ u.category = 1 then some (.inl (pc + 1, L, v :: u :: v :: r, w)) else none
    | _ => none
  | .dup_x2 => match st with
    | v :: u :: t :: r => if v.category = 1 ∧ u.category = 1 ∧ t.category = 1 then some (.inl (pc + 1, L, v :: u :: t :: v :: r, w)) else none
    | _ => none
  | .dup2 => match st with
    | v :: u :: r => if v.category = 1 ∧ u.category = 1 then some (.inl (pc + 1, L, v :: u :: v :: u :: r, w)) else none
    | _ => none
  | .pop => match st with
    | v :: r => if v.category = 1 then some (.inl (pc + 1, L, r, w)) else none
    | _ => none
  | .ifCond c off => match st with
    | .int x :: r => ex_br pc off (ex_cb c x 0) L r w
    | _ => none
  | .if_icmp c off => match st with
    | .int y :: .int x :: r => ex_br pc off (ex_cb c x y) L r w
    | _ => none
  | .goto off => ex_j pc off L st w
  | .tableswitch d lo hi offs => match st with
    | .int x :: r => if lo < -2147483648 ∨ hi ≥ 2147483648 ∨ lo + offs.toList.length ≠ hi + 1 then none else ex_j pc (ex_sw x offs.toList lo d) L r w
    | _ => none
  | .lookupswitch d ps => match st with
    | .int x :: r => if ((ps.toList.zip (ps.toList.drop 1)).all (fun (a, nx) => a.1 < nx.1) && ps.toList.all (fun q => decide (-2147483648 ≤ q.1 ∧ q.1 < 2147483648))) = true then ex_j pc (ex_ls x ps.toList d) L r w else none
    | _ => none
  | .getstatic idx => match kZ (kO mi) idx with
    | some 0 => some (.inl (pc + 3, L, .int 1 :: st, w))
    | some _ => some (.inl (pc + 3, L, .retAddr 0 :: st, w))
    | none => none
  | .getfield idx => match st with
    | .ref h :: r => if h < 1000 then match kF (kO mi) idx with
        | some (ci, k, _) => match ex_gf w h ci k with
          | some v => some (.inl (pc + 3, L, v :: r, w))
          | none => none
        | none => none
      else if 1001 ≤ h ∧ h < 1001 + nS then match kG (kO mi) idx with
        | some true => some (.inl (pc + 3, L, .ref (h + 1000) :: r, w))
        | some false => some (.inl (pc + 3, L, .int 0 :: r, w))
        | none => none
      else none
    | _ => none
  | .putfield idx => match st with
    | v :: .ref h :: r => if h < 1000 then match kF (kO mi) idx with
        | some (ci, k, nest) => if narrow (kT ci k) v = v ∧ fits (kT ci k) v = true ∧ (kQ ci k = true → kN0 mi = true ∧ nest = false ∧ kD ci = kO mi) then match ex_pf w h ci k v with
            | some w1 => some (.inl (pc + 3, L, r, w1))
            | none => none
          else none
        | none => none
      else none
    | _ => none
  | .new idx => match kN (kO mi) idx with
    | some ci => if w.length < 1000 then some (.inl (pc + 3, L, .ref w.length :: st, w ++ [.inl (ci, kB ci)])) else none
    | none => none
  | .newarray .int => match st with
    | .int n :: r => if ¬ n < 0 ∧ n.toNatClampNeg ≤ 100000 ∧ w.length < 1000 then some (.inl (pc + 2, L, .ref w.length :: r, w ++ [.inr (0, List.replicate n.toNatClampNeg 0)])) else none
    | _ => none
  | .newarray .boolean => match st with
    | .int n :: r => if ¬ n < 0 ∧ n.toNatClampNeg ≤ 100000 ∧ w.length < 1000 then some (.inl (pc + 2, L, .ref w.length :: r, w ++ [.inr (1, List.replicate n.toNatClampNeg 0)])) else none
    | _ => none
  | .arraylength => match st with
    | .ref a :: r => if a < 1000 then match ex_an w a with
        | some v => some (.inl (pc + 1, L, .int v :: r, w))
        | none => none
      else if a = 1000 then match X with
        | some xs => some (.inl (pc + 1, L, .int (Int32.ofNat xs.length) :: r, w))
        | none => none
      else if 2001 ≤ a ∧ a < 2001 + nS then some (.inl (pc + 1, L, .int (Int32.ofNat (kX (a - 2001)).length) :: r, w))
      else none
    | _ => none
  | .iaload => match st with
    | .int i :: .ref a :: r => if a < 1000 then match ex_al w a 0 i with
        | some v => some (.inl (pc + 1, L, .int v :: r, w))
        | none => none
      else if a = 1000 ∧ ¬ i < 0 then match X with
        | some xs => match xs[i.toNatClampNeg]? with
          | some v => some (.inl (pc + 1, L, .int v :: r, w))
          | none => none
        | none => none
      else none
    | _ => none
  | .baload => match st with
    | .int i :: .ref a :: r => if a < 1000 then match ex_al w a 1 i with
        | some v => some (.inl (pc + 1, L, .int v :: r, w))
        | none => none
      else if 2001 ≤ a ∧ a < 2001 + nS ∧ ¬ i < 0 then match (kX (a - 2001))[i.toNatClampNeg]? with
        | some v => some (.inl (pc + 1, L, .int v :: r, w))
        | none => none
      else none
    | _ => none
  | .iastore => match st with
    | .int x :: .int i :: .ref a :: r => if a < 1000 then match ex_as w a 0 i x with
        | some w1 => some (.inl (pc + 1, L, r, w1))
        | none => none
      else none
    | _ => none
  | .bastore => match st with
    | .int x :: .int i :: .ref a :: r => if a < 1000 ∧ vp_nar .boolean x = x then match ex_as w a 1 i x with
        | some w1 => some (.inl (pc + 1, L, r, w1))
        | none => none
      else none
    | _ => none
  | .invokestatic idx => match kM (kO mi) idx with
    | some (mj, 1) => match ex_pop (kA mj) st with
      | some (av, r) => if ex_lv mi mj av r = true then some (.inr (.inr (mj, av, r))) else none
      | none => none
    | some (_, 5) => match st with
      | .int y :: .int x :: r => if (r.map Value.category).sum ≤ 8 ∧ 1 ≤ kV mi ∧ 21 ≤ kW mi then some (.inl (pc + 3, L, .int (if y < x then y else x) :: r, w)) else none
      | _ => none
    | _ => none
  | .invokevirtual idx => match kM (kO mi) idx with
    | some (mj, 0) => match ex_pop (kA mj) st with
      | some (.ref h :: av, r) => if ex_lv mi mj (.ref h :: av) r = true ∧ ex_rc w h (kH mj) = true then some (.inr (.inr (mj, .ref h :: av, r))) else none
      | _ => none
    | _ => none
  | .invokespecial idx => match kM (kO mi) idx with
    | some (mj, 2) => match ex_pop (kA mj) st with
      | some (.ref h :: av, r) => if ex_lv mi mj (.ref h :: av) r = true then some (.inr (.inr (mj, .ref h :: av, r))) else none
      | _ => none
    | some (_, 6) => match st with
      | .ref _ :: r => if (r.map Value.category).sum ≤ 8 ∧ 1 ≤ kV mi ∧ 20 ≤ kW mi then some (.inl (pc + 3, L, r, w)) else none
      | _ => none
    | _ => none
  | .ireturn => match st, kR mi with
    | [.int v], some ty => if narrow ty (.int v) = .int v then some (.inr (.inl (some (.int v)))) else none
    | _, _ => none
  | .lreturn => match st, kR mi with
    | [.long v], some .long => some (.inr (.inl (some (.long v))))
    | _, _ => none
  | .areturn => match st, kR mi with
    | [.ref v], some (.object _) => some (.inr (.inl (some (.ref v))))
    | _, _ => none
  | .return_ => match st, kR mi with
    | [], none => some (.inr (.inl none))
    | _, _ => none
  | _ => none
def ex_act (X : Option (List Int32)) (mi pc : Nat) (L : ex_L) (st : List Value) (w : ex_W) : Option ex_A := match decode (kC mi) pc with
  | .ok (i, len) => if ex_lok i len = true then ex_do X mi pc i L st w else none
  | .error _ => none
def ex_run (X : Option (List Int32)) : Nat → Nat → Nat → ex_L → List Value → ex_W → ex_O
  | 0, _, _, _, _, _ => none
  | n + 1, mi, pc, L, st, w => match ex_act X mi pc L st w with
    | none => none
    | some (.inl (pc1, L1, st1, w1)) => ex_run X n mi pc1 (ex_tr mi pc1 L1) st1 w1
    | some (.inr (.inl r)) => some (r, w)
    | some (.inr (.inr (mj, av, r))) => match ex_run X n mj 0 (lv_args 0 av) [] w with
      | none => none
      | some (rv, w1) => ex_run X n mi (pc + 3) (ex_tr mi (pc + 3) L) (rv.toList ++ r) w1
theorem ex_run_s (X : Option (List Int32)) (n mi pc : Nat) (L : ex_L) (st : List Value) (w : ex_W) : ex_run X (n + 1) mi pc L st w = match ex_act X mi pc L st w with
    | none => none
    | some (.inl (pc1, L1, st1, w1)) => ex_run X n mi pc1 (ex_tr mi pc1 L1) st1 w1
    | some (.inr (.inl r)) => some (r, w)
    | some (.inr (.inr (mj, av, r))) => match ex_run X n mj 0 (lv_args 0 av) [] w with
      | none => none
      | some (rv, w1) => ex_run X n mi (pc + 3) (ex_tr mi (pc + 3) L) (rv.toList ++ r) w1 := rfl
theorem ex_mono1 (X : Option (List Int32)) : ∀ (n mi pc : Nat) (L : ex_L) (st : List Value) (w : ex_W) (q : Option Value × ex_W), ex_run X n mi pc L st w = some q → ex_run X (n + 1) mi pc L st w = some q := by
  intro n
  induction n with
  | zero => intro mi pc L st w q h; cases h
  | succ n ih =>
    intro mi pc L st w q h
    rw [ex_run_s] at h ⊢
    cases ha : ex_act X mi pc L st w with
    | none => rw [ha] at h; cases h
    | some a =>
      rw [ha] at h
      rcases a with ⟨pc1, L1, st1, w1⟩ | r | ⟨mj, av, r⟩
      · exact ih _ _ _ _ _ _ h
      · exact h
      · dsimp only at h ⊢
        cases hc : ex_run X n mj 0 (lv_args 0 av) [] w with
        | none => rw [hc] at h; cases h
        | some x =>
          obtain ⟨rv, w1⟩ := x
          rw [hc] at h
          rw [ih _ _ _ _ _ _ hc]
          exact ih _ _ _ _ _ _ h
theorem ex_mono (X : Option (List Int32)) {n k mi pc : Nat} {L : ex_L} {st : List Value} {w : ex_W} {q : Option Value × ex_W} (hk : n ≤ k) (h : ex_run X n mi pc L st w = some q) : ex_run X k mi pc L st w = some q := by
  induction hk with
  | refl => exact h
  | step _ ih => exact ex_mono1 X _ _ _ _ _ _ _ ih
/-- the answer of a run to its end, if it has one -/
noncomputable def ex_go (X : Option (List Int32)) (mi pc : Nat) (L : ex_L) (st : List Value) (w : ex_W) : ex_O := @dite ex_O (∃ q, ∃ n, ex_run X n mi pc L st w = some q) (Classical.propDecidable _) (fun h => some h.choose) (fun _ => none)
theorem ex_go_iff (X : Option (List Int32)) (mi pc : Nat) (L : ex_L) (st : List Value) (w : ex_W) (q : Option Value × ex_W) : ex_go X mi pc L st w = some q ↔ ∃ n, ex_run X n mi pc L st w = some q := by
  unfold ex_go
  constructor
  · intro h
    split at h
    next hex =>
      cases h
      exact hex.choose_spec
    next => cases h
  · rintro ⟨n, hn⟩
    have hex : ∃ q, ∃ n, ex_run X n mi pc L st w = some q := ⟨q, n, hn⟩
    rw [dif_pos hex]
    obtain ⟨k, hk⟩ := hex.choose_spec
    have h1 := ex_mono X (Nat.le_max_left n k) hn
    have h2 := ex_mono X (Nat.le_max_right n k) hk
    rw [h1] at h2
    exact congrArg some (Option.some.inj h2).symm
theorem ex_go_eq (X : Option (List Int32)) (mi pc : Nat) (L : ex_L) (st : List Value) (w : ex_W) : ex_go X mi pc L st w = match ex_act X mi pc L st w with
    | none => none
    | some (.inl (pc1, L1, st1, w1)) => ex_go X mi pc1 (ex_tr mi pc1 L1) st1 w1
    | some (.inr (.inl r)) => some (r, w)
    | some (.inr (.inr (mj, av, r))) => (ex_go X mj 0 (lv_args 0 av) [] w).bind (fun q => ex_go X mi (pc + 3) (ex_tr mi (pc + 3) L) (q.1.toList ++ r) q.2) := by
  apply Option.ext
  intro q
  rw [ex_go_iff]
  cases ha : ex_act X mi pc L st w with
  | none =>
    constructor
    · rintro ⟨n, h⟩
      cases n with
      | zero => cases h
      | succ n => rw [ex_run_s, ha] at h; cases h
    · intro h; cases h
  | some a =>
    rcases a with ⟨pc1, L1, st1, w1⟩ | r | ⟨mj, av, r⟩
    · dsimp only
      rw [ex_go_iff]
      constructor
      · rintro ⟨n, h⟩
        cases n with
        | zero => cases h
        | succ n => rw [ex_run_s, ha] at h; exact ⟨n, h⟩
      · rintro ⟨n, h⟩
        refine ⟨n + 1, ?_⟩
        rw [ex_run_s, ha]
        exact h
    · dsimp only
      constructor
      · rintro ⟨n, h⟩
        cases n with
        | zero => cases h
        | succ n => rw [ex_run_s, ha] at h; exact h
      · intro h
        refine ⟨1, ?_⟩
        rw [ex_run_s, ha]
        exact h
    · dsimp only
      constructor
      · rintro ⟨n, h⟩
        cases n with
        | zero => cases h
        | succ n =>
          rw [ex_run_s, ha] at h
          dsimp only at h
          cases hc : ex_run X n mj 0 (lv_args 0 av) [] w with
          | none => rw [hc] at h; cases h
          | some x =>
            obtain ⟨rv, w1⟩ := x
            rw [hc] at h
            rw [(ex_go_iff X mj 0 (lv_args 0 av) [] w (rv, w1)).mpr ⟨n, hc⟩]
            show ex_go X mi (pc + 3) (ex_tr mi (pc + 3) L) (rv.toList ++ r) w1 = some q
            exact (ex_go_iff _ _ _ _ _ _ _).mpr ⟨n, h⟩
      · intro h
        cases hc : ex_go X mj 0 (lv_args 0 av) [] w with
        | none => rw [hc] at h; cases h
        | some x =>
          obtain ⟨rv, w1⟩ := x
          rw [hc] at h
          obtain ⟨n1, h1⟩ := (ex_go_iff _ _ _ _ _ _ _).mp hc
          obtain ⟨n2, h2⟩ := (ex_go_iff X mi (pc + 3) (ex_tr mi (pc + 3) L) (rv.toList ++ r) w1 q).mp h
          refine ⟨max n1 n2 + 1, ?_⟩
          rw [ex_run_s, ha]
          dsimp only
          rw [ex_mono X (Nat.le_max_left n1 n2) h1]
          exact ex_mono X (Nat.le_max_right n1 n2) h2
/-- how many fields and elements a world has -/
def ex_sz : ex_C → Nat
  | .inl o => o.2.length
  | .inr a => a.2.length
def ex_sl (w : ex_W) : Nat := (w.map ex_sz).sum
