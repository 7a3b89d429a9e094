/-! the law's loop, whole -/
theorem l_loop : ∀ (d N : Nat) (sc : k_SC) (A : k_H) (v : Int), k_Wf sc A → Rel A → sc.1.1 ≤ 3584 → 0 ≤ v → v + 7 * d ≤ sc.1.1 → sc.1.1 < v + 7 * d + 7 → ∃ A' sc', fL_law_h23 (N + d + 1) A 0 120 151 v = some (1, A') ∧ k_Wf sc' A' ∧ sc'.2.1 ≤ sc.2.1 + d ∧ sc'.2.2 ≤ sc.2.2 + 6 * d := by
  intro d
  induction d with
  | zero =>
    intro N sc A v hw r hl v0 v1 v2
    refine ⟨A, sc, ?_, hw, by omega, by omega⟩
    rw [fL_law_h23, l_len hw, if_pos (by omega), k_wr_of (x := (sc.1.1 : Int) - 7) (by omega) (by omega), if_neg (by omega)]
  | succ d ih =>
    intro N sc A v hw r hl v0 v1 v2
    obtain ⟨sc', A', g1, g2, g3, g4, g5, g6⟩ := l_step hw r hl v0 (v := v) (by omega)
    obtain ⟨A2, sc2, h1, h2, h3, h4⟩ := ih N sc' A' (v + 7) g2 g3 (by rw [g4]; exact hl) (by omega) (by rw [g4]; omega) (by rw [g4]; omega)
    refine ⟨A2, sc2, ?_, h2, by omega, by omega⟩
    show fL_law_h23 ((N + d + 1) + 1) A 0 120 151 v = _
    rw [g1, h1]
