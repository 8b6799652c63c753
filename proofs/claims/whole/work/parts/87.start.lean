/-! both objects at the start -/
def B0 : List Nat := [77, 0, 0, 0, 0, 0]
theorem tel0 : telT B0 = [98, 108, 111, 99, 107, 32, 48, 10] := by
  have e : prtT B0 4 0 = [] := rfl
  unfold telT
  rw [e]
  decide +kernel
theorem scan0 : scanN B0 = none := by decide +kernel
theorem b0_b : ∀ j, B0.getD j 0 < 256 := b256_get (by unfold b256; decide)
theorem hold0 {n : Nat} : holds (List.replicate n 0) [] := holds_nil
theorem pI0 : pI B0 [] [] := by
  refine ⟨fun j => by rw [getD_out (Nat.zero_le _)]; decide, Nat.zero_le _, fun j hj => absurd hj (Nat.not_lt_zero _), fun j => by rw [getD_out (Nat.zero_le _)]; decide, Nat.zero_le _, scan_shape scan0, b0_b, by rw [tel0]; decide⟩
theorem row0 {w : ex_W} {h a n : Nat} {xs : List Int32} {x : Int32} (h1 : w[h]? = some (.inl (1, [.ref a, .int x]))) (hx : x = nI n) (h2 : w[a]? = some (.inr (0, xs))) (h3 : n ≤ xs.length) (h4 : xs.length < 2 ^ 20) (h5 : h < 1000) (h6 : a < 1000) : isRow w h a xs n := ⟨by rw [← hx]; exact h1, h2, h3, h4, h5, h6⟩
theorem ma0 : isMa ex_w0 := ⟨0, 0, 0, 0, 0, 0, 0, [], List.replicate 120 0, 9, 0, 0, 0, 0, 0, 0, 0, 0, [], [], rfl, row0 (x := 0) rfl rfl rfl (by decide +kernel) (by decide +kernel) (by decide) (by decide), holds_nil, List.length_replicate, rfl, List.replicate 64 0, List.replicate 64 0, List.replicate 64 0, List.replicate 64 0, rfl, rfl, List.length_replicate, holds_nil, rfl, List.length_replicate, holds_nil, rfl, List.length_replicate, holds_nil, rfl, List.length_replicate, holds_nil⟩
theorem sc0 : isSc ex_w0 ex_w0 (telT B0) [48] 0 (List.replicate 120 0) := by
  rw [tel0]
  refine ⟨rfl, fun j _ => rfl, rfl, ⟨[98, 108, 111, 99, 107, 32, 48, 10] ++ List.replicate 800 0, row0 (x := 8) rfl rfl rfl (by decide +kernel) (by decide +kernel) (by decide) (by decide), ⟨by decide +kernel, by decide +kernel⟩, by decide +kernel⟩, ⟨48 :: List.replicate 18 0, row0 (x := 1) rfl rfl rfl (by decide +kernel) (by decide +kernel) (by decide) (by decide), ⟨by decide +kernel, by decide +kernel⟩, by decide +kernel⟩, rfl, rfl, List.length_replicate⟩
theorem bl0 : isBl ex_w0 22 B0 := by
  refine ⟨77 :: List.replicate 123 0, [2, 3, 4, 5], List.replicate 40 0, ⟨rfl, row0 (x := 6) rfl rfl rfl (by decide +kernel) (by decide +kernel) (by decide) (by decide), ⟨by decide +kernel, by decide +kernel⟩, by decide, b0_b⟩, by decide +kernel, rfl, rfl, rfl, List.length_replicate, ⟨by decide +kernel, by decide +kernel⟩, scan0, by decide⟩
theorem sp0 : isSp ex_w0 27 := ⟨List.replicate 124 0, [0, 0, 0, 0], List.replicate 40 0, 0, rfl, row0 (x := 0) rfl rfl rfl (by decide +kernel) (by decide +kernel) (by decide) (by decide), List.length_replicate, rfl, rfl, rfl, List.length_replicate⟩
theorem cInv0 : cInv ex_w0 B0 [] [] := ⟨22, 27, List.replicate 124 0, List.replicate 200 0, Or.inl ⟨rfl, rfl⟩, rfl, ⟨row0 (x := 0) rfl rfl rfl (by decide +kernel) (by decide +kernel) (by decide) (by decide), holds_nil, List.length_replicate⟩, ⟨row0 (x := 0) rfl rfl rfl (by decide +kernel) (by decide +kernel) (by decide) (by decide), holds_nil, List.length_replicate⟩, ma0, ⟨_, _, _, sc0⟩, bl0, sp0⟩
def m0N : Nat → Int32 := fun k => if k = 1 then 6 else if k = 9 then 8 else 0
theorem rInv0 : rInv ex_w0 B0 [] [] := by
  refine ⟨⟨m0N, 0, [], [], rfl, rfl, rfl, ⟨List.replicate 100 0, List.replicate 60 0, List.replicate 60 0, List.replicate 60 0, rfl, List.length_replicate, holds_nil, rfl, List.length_replicate, holds_nil, rfl, List.length_replicate, holds_nil, rfl, List.length_replicate, holds_nil⟩, rfl, rfl, rfl, by rw [tel0]; rfl⟩, ⟨77 :: List.replicate 129 0, rfl, by decide +kernel, ⟨by decide +kernel, by decide +kernel⟩⟩, ⟨List.replicate 140 0, rfl, List.length_replicate⟩, ⟨List.replicate 124 0, rfl, List.length_replicate, holds_nil⟩, ⟨List.replicate 200 0, rfl, List.length_replicate, holds_nil⟩, ?_, ⟨List.replicate 20 0, rfl, List.length_replicate⟩, ⟨List.replicate 121 0, rfl, List.length_replicate⟩, ⟨List.replicate 121 0, rfl, List.length_replicate⟩, ⟨List.replicate 1000 0, rfl, List.length_replicate⟩⟩
  rw [tel0]
  exact ⟨[98, 108, 111, 99, 107, 32, 48, 10] ++ List.replicate 992 0, rfl, ⟨by decide +kernel, by decide +kernel⟩, by decide +kernel⟩
theorem Inv0 : Inv ex_w0 := ⟨ex_sl0.2, B0, [], [], pI0, cInv0, rInv0⟩
