def k_A0 (sc : Nat × (Nat → Int32)) : k_H := ((0, 0, 0), (fun a => if a = -2 then (30, sc.1) else (0, 0)), fun a i => if a = -2 then (sc.2 i.toNat).toInt else 0)
theorem law_pure (sc : Nat × (Nat → Int32)) (hL : sc.1 ≤ 3584) : ∃ A' : k_H, fL_law_b0 (k_A0 sc) = some (1, A') ∧ k_U A' ≤ 601024 ∧ k_T A' ≤ 7293034 := sorry
