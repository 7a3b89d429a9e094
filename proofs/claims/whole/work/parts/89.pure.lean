/-! the law, as a function -/
def k_A0 (sc : Nat × (Nat → Int32)) : k_H := ((0, 0, 0), (fun a => if a = -2 then (30, sc.1) else (0, 0)), fun a i => if a = -2 then (sc.2 i.toNat).toInt else 0)
section
variable {sc : Nat × (Nat → Int32)} {t : Nat} {A : k_H}
theorem i_z (d : i_D sc 151 t 6 12 6 A) {a i : Int} {k len : Nat} (a0 : 0 ≤ a) (a1 : a < 151) (i0 : 0 ≤ i) (x : a ≠ 0 ∧ a ≠ 3 ∧ a ≠ 4) (hk : k_shp a = (k, len)) (ht : k_etag k i = 0) : k_rd (k_mk A 22 1) a i = i_sp a i := by
  rw [r_mk, d.1, if_neg (by omega), d.2.2.2.2.2.1 a i a0 a1 i0 x.1 x.2.1 x.2.2, i_c0 hk ht]
theorem i_wf (d : i_D sc 151 t 6 12 6 A) : k_Wf (sc, 152, t + 1) (k_mk A 22 1) := by
  obtain ⟨hN, hU, hT, hk, hs, hr, h0, h3, h4⟩ := d
  refine ⟨?_, fun a a0 a1 => ?_, fun a i a0 a1 i0 i1 ht => ?_, s_mk hs⟩
  · have e1 : (k_mk A 22 1).1 = (k_N (k_mk A 22 1), k_U (k_mk A 22 1), k_T (k_mk A 22 1)) := rfl
    rw [e1, n_mk, u_mk, t_mk9, hN, hU, hT]
  · rw [d_mk, hN]
    by_cases z : a = 151
    · rw [if_pos (by omega), z]; decide +kernel
    · rw [if_neg (by omega)]; exact hk a a0 (by omega)
  · by_cases z : a = 151
    · subst z
      have : (k_shp 151).1 = 22 := by decide +kernel
      rw [this, i_lng] at ht
      omega
    · rw [r_mk, hN, if_neg (by omega)]
      by_cases z0 : a = 0
      · subst z0
        rw [h0 i i0]
        by_cases y : i < 6
        · rw [if_pos y]
        · exfalso
          obtain ⟨m, rfl⟩ : ∃ m : Nat, i = m := ⟨i.toNat, by omega⟩
          have e1 : k_shp 0 = (8, 8) := by decide +kernel
          rw [e1] at ht i1
          have : ∀ m : Nat, m < 8 → 6 ≤ m → k_etag 8 (m : Int) ≠ 1 := by decide +kernel
          exact this m (by have : (m : Int) < ((8 : Nat) : Int) := i1; omega) (by omega) ht
      · by_cases z3 : a = 3
        · subst z3
          have e1 : k_shp 3 = (23, 12) := by decide +kernel
          rw [e1] at i1
          have i2 : i < ((12 : Nat) : Int) := i1
          rw [h3 (by omega) i i0, if_pos (by omega)]
          unfold k_pv
          rw [e1, if_pos rfl]
        · by_cases z4 : a = 4
          · subst z4
            have e1 : k_shp 4 = (24, 6) := by decide +kernel
            rw [e1] at i1
            have i2 : i < ((6 : Nat) : Int) := i1
            rw [h4 (by omega) i i0, if_pos (by omega)]
            unfold k_pv
            rw [e1, if_neg (by show ¬ (24 : Nat) = 23; omega), if_pos rfl]
          · rw [hr a i a0 (by omega) i0 z0 z3 z4]
            unfold i_c
            rw [if_pos ht]
theorem i_rel (d : i_D sc 151 t 6 12 6 A) : Rel (k_mk A 22 1) := by
  have h0 := d.2.2.2.2.2.2.1
  have z0 : ∀ i : Int, i = 6 ∨ i = 7 → k_rd (k_mk A 22 1) 0 i = 0 := by
    intro i hi
    rw [r_mk, d.1, if_neg (by omega), h0 i (by omega), if_neg (by omega)]
    rcases hi with hi | hi <;> subst hi <;> decide +kernel
  -- rows of numbers
  have row : ∀ (a : Int) (k len : Nat), 0 ≤ a → a < 151 → (a ≠ 0 ∧ a ≠ 3 ∧ a ≠ 4) → (a < 72 ∨ 120 ≤ a) → k_shp a = (k, len) → (k = 20 ∨ k = 21) → ∀ i : Int, 0 ≤ i → k_rd (k_mk A 22 1) a i = 0 := fun a k len a0 a1 x y hk hkk i i0 => by
    rw [i_z d a0 a1 i0 x hk (i_row hkk i), i_sp0 y]
  have R : ∀ (a : Int), 121 ≤ a → a < 151 → a ≠ 149 → ∀ i : Int, 0 ≤ i → k_rd (k_mk A 22 1) a i = 0 := by
    intro a b0 b1 b2 i i0
    obtain ⟨a, rfl⟩ : ∃ m : Nat, a = m := ⟨a.toNat, by omega⟩
    have a0 : 121 ≤ a := by omega
    have a1 : a < 151 := by omega
    have a2 : a ≠ 149 := by omega
    have sh : ∀ a : Nat, a < 151 → 121 ≤ a → a ≠ 149 → (k_shp (a : Int)).1 = 20 ∨ (k_shp (a : Int)).1 = 21 := by decide +kernel
    exact row a _ _ (by omega) (by omega) (by omega) (by omega) (Prod.ext rfl rfl : k_shp (a : Int) = ((k_shp (a : Int)).1, (k_shp (a : Int)).2)) (sh a a1 a0 a2) i i0
  have M : ∀ i : Nat, i < 42 → k_etag 9 (i : Int) = 0 → k_rd (k_mk A 22 1) 120 i = 0 := by
    intro i hi ht
    rw [i_z d (by omega) (by omega) (by omega) (by omega) (show k_shp 120 = (9, 43) by decide +kernel) ht, i_sp0 (by omega)]
  have m2 : k_rd (k_mk A 22 1) 120 2 = 0 := M 2 (by omega) (by decide +kernel)
  have m20 : k_rd (k_mk A 22 1) 120 20 = 0 := M 20 (by omega) (by decide +kernel)
  have m21 : k_rd (k_mk A 22 1) 120 21 = 0 := M 21 (by omega) (by decide +kernel)
  have m39 : k_rd (k_mk A 22 1) 120 39 = 0 := M 39 (by omega) (by decide +kernel)
  have H : ∀ h : Int, 0 ≤ h → h < 12 → (∀ i : Int, 2 ≤ i → k_rd (k_mk A 22 1) (24 + 4 * h) i = 0) ∧ (∀ i : Int, 1 ≤ i → k_rd (k_mk A 22 1) (24 + 4 * h + 1) i = 0) ∧ (∀ i : Int, 0 ≤ i → k_rd (k_mk A 22 1) (24 + 4 * h + 1 + 1) i = 0) ∧ (∀ i : Int, 0 ≤ i → k_rd (k_mk A 22 1) (24 + 4 * h + 3) i = 0) := by
    intro h x0 x1
    obtain ⟨m, rfl⟩ : ∃ m : Nat, h = m := ⟨h.toNat, by omega⟩
    obtain ⟨q0, q1, q2, q3⟩ := i_shH m (by omega)
    have c : ((24 + 4 * m : Nat) : Int) = 24 + 4 * (m : Int) := by omega
    rw [c] at q0 q1 q2 q3
    have e2 : 24 + 4 * (m : Int) + 1 + 1 = 24 + 4 * (m : Int) + 2 := by omega
    refine ⟨fun i i0 => ?_, fun i i0 => ?_, fun i i0 => ?_, fun i i0 => ?_⟩
    · rw [i_z d (by omega) (by omega) (by omega) (by omega) q0 (i_t1 (by omega) (by omega) (by omega)), i_sp0 (by omega)]
    · rw [i_z d (by omega) (by omega) (by omega) (by omega) q1 (i_t0 (by omega) (by omega)), i_sp0 (by omega)]
    · rw [e2, i_z d (by omega) (by omega) (by omega) (by omega) q2 (i_row (by omega) i), i_sp0 (by omega)]
    · rw [i_z d (by omega) (by omega) (by omega) (by omega) q3 (i_row (by omega) i), i_sp0 (by omega)]
  have S : ∀ s : Int, 0 ≤ s → s < 6 → (k_rd (k_mk A 22 1) (72 + 8 * s) 4 = 0 ∧ k_rd (k_mk A 22 1) (72 + 8 * s) 5 = 0) ∧ k_rd (k_mk A 22 1) (72 + 8 * s + 1) 1 = 0 ∧ (∀ i : Int, 0 ≤ i → k_rd (k_mk A 22 1) (72 + 8 * s + 1 + 1) i = 0) ∧ (∀ i : Int, 0 ≤ i → i < 14 → k_rd (k_mk A 22 1) (72 + 8 * s + 3) i = -1 ∧ k_rd (k_mk A 22 1) (72 + 8 * s + 4) i = -1) ∧ (∀ i : Int, 2 ≤ i → k_rd (k_mk A 22 1) (72 + 8 * s + 5) i = 0) := by
    intro h x0 x1
    obtain ⟨m, rfl⟩ : ∃ m : Nat, h = m := ⟨h.toNat, by omega⟩
    obtain ⟨q0, q1, q2, q3, q4, q5, q6, q7⟩ := i_shS m (by omega)
    have c : ((72 + 8 * m : Nat) : Int) = 72 + 8 * (m : Int) := by omega
    rw [c] at q0 q1 q2 q3 q4 q5 q6 q7
    have e2 : 72 + 8 * (m : Int) + 1 + 1 = 72 + 8 * (m : Int) + 2 := by omega
    refine ⟨⟨?_, ?_⟩, ?_, fun i i0 => ?_, fun i i0 i1 => ⟨?_, ?_⟩, fun i i0 => ?_⟩
    · rw [i_z d (by omega) (by omega) (by omega) (by omega) q0 (by decide +kernel)]
      unfold i_sp
      rw [if_neg (by omega), if_neg (by omega)]
    · rw [i_z d (by omega) (by omega) (by omega) (by omega) q0 (by decide +kernel)]
      unfold i_sp
      rw [if_neg (by omega), if_neg (by omega)]
    · rw [i_z d (by omega) (by omega) (by omega) (by omega) q1 (by decide +kernel)]
      unfold i_sp
      rw [if_neg (by omega), if_neg (by omega)]
    · rw [e2, i_z d (by omega) (by omega) (by omega) (by omega) q2 (i_row (by omega) i)]
      unfold i_sp
      rw [if_neg (by omega), if_neg (by omega)]
    · rw [i_z d (by omega) (by omega) (by omega) (by omega) q3 (i_row (by omega) i)]
      unfold i_sp
      rw [if_pos (by omega)]
    · rw [i_z d (by omega) (by omega) (by omega) (by omega) q4 (i_row (by omega) i)]
      unfold i_sp
      rw [if_pos (by omega)]
    · rw [i_z d (by omega) (by omega) (by omega) (by omega) q5 (i_t6 (by omega) (by omega) (by omega))]
      unfold i_sp
      rw [if_neg (by omega), if_neg (by omega)]
  have T1 : k_rd (k_mk A 22 1) 1 1 = 0 := by rw [i_z d (by omega) (by omega) (by omega) (by omega) (show k_shp 1 = (5, 2) by decide +kernel) (by decide +kernel), i_sp0 (by omega)]
  have T2 : ∀ i : Int, 0 ≤ i → k_rd (k_mk A 22 1) 2 i = 0 := fun i i0 => row 2 21 200 (by omega) (by omega) (by omega) (by omega) (by decide +kernel) (Or.inr rfl) i i0
  have F1 : k_rd (k_mk A 22 1) 18 2 = 0 := by rw [i_z d (by omega) (by omega) (by omega) (by omega) (show k_shp 18 = (7, 12) by decide +kernel) (by decide +kernel), i_sp0 (by omega)]
  refine ⟨⟨by rw [T1, m2], by rw [m2]; omega, by rw [m2]; omega, fun i x y => ?_⟩, ⟨by rw [z0 6 (Or.inl rfl), m20], by rw [m20]; omega, by rw [m20]; omega, fun h x y => ?_⟩, fun h s x0 x1 y0 y1 => ?_, ⟨by rw [z0 7 (Or.inr rfl), m21], by rw [m21]; omega, by rw [m21]; omega, fun s x y => ?_⟩, fun s n x0 x1 y0 y1 => ?_, fun s x y => ?_, ?_⟩
  · rw [T2 i x, R 121 (by omega) (by omega) (by omega) i x]; decide
  · obtain ⟨h1, h2, h3, h4⟩ := H h x y
    rw [h1 2 (by omega), h1 3 (by omega), h1 4 (by omega), h1 5 (by omega), h2 1 (by omega), R 122 (by omega) (by omega) (by omega) h x, R 123 (by omega) (by omega) (by omega) h x, R 124 (by omega) (by omega) (by omega) h x, R 125 (by omega) (by omega) (by omega) h x, R 126 (by omega) (by omega) (by omega) h x, m20]
    refine ⟨by omega, by omega, rfl, rfl, ⟨rfl, by omega, by omega, fun q => by omega⟩, fun c c0 c1 => ?_⟩
    rw [h3 c c0, R 127 (by omega) (by omega) (by omega) (4 * h + c) (by omega)]; omega
  · obtain ⟨h1, h2, h3, h4⟩ := H h x0 x1
    rw [h4 s y0, R 136 (by omega) (by omega) (by omega) (6 * h + s) (by omega)]
    exact ⟨rfl, by omega, by omega, fun _ => rfl⟩
  · obtain ⟨s1, s2, s3, s4, s5⟩ := S s x y
    rw [s1.1, s1.2, s2, R 128 (by omega) (by omega) (by omega) s x, R 129 (by omega) (by omega) (by omega) s x, R 130 (by omega) (by omega) (by omega) s x, m21]
    refine ⟨rfl, rfl, by omega, fun l l0 l1 => ?_, fun q => by omega⟩
    rw [s3 l l0, R 131 (by omega) (by omega) (by omega) (8 * s + l) (by omega)]; omega
  · obtain ⟨s1, s2, s3, s4, s5⟩ := S s x0 x1
    have q := s4 n y0 y1
    rw [q.1, q.2, m20, m21]
    exact ⟨fun w => by omega, fun _ => ⟨rfl, rfl⟩, by omega, fun _ _ _ _ _ => rfl⟩
  · obtain ⟨s1, s2, s3, s4, s5⟩ := S s x y
    have r151 : ∀ i : Int, 0 ≤ i → k_rd (k_mk A 22 1) 150 i = 0 := R 150 (by omega) (by omega) (by omega)
    rw [s5 2 (by omega), s5 3 (by omega), s5 4 (by omega), s5 5 (by omega), s5 6 (by omega), r151 (12 * s) (by omega), r151 (12 * s + 1) (by omega), r151 (12 * s + 8) (by omega), r151 (12 * s + 9) (by omega), r151 (12 * s + 10) (by omega)]
    exact ⟨by omega, by omega, by omega, by omega, by omega, fun k k0 k1 => by omega⟩
  · show k_rd (k_mk A 22 1) 18 2 = k_rd (k_mk A 22 1) 120 39
    rw [F1, m39]
end
theorem law_pure (sc : Nat × (Nat → Int32)) (hL : sc.1 ≤ 3584) : ∃ A' : k_H, fL_law_b0 (k_A0 sc) = some (1, A') ∧ k_U A' ≤ 601024 ∧ k_T A' ≤ 7293034 := by
  have d1 : i_D sc 1 8 0 0 0 (k_mk (k_A0 sc) 8 8) := by
    refine ⟨rfl, rfl, rfl, fun a a0 a1 => ?_, ⟨?_, fun j hj => ?_⟩, fun a i a0 a1 i0 x0 => by omega, fun i i0 => ?_, fun q => by omega, fun q => by omega⟩
    · have : a = 0 := by omega
      subst this
      show ((8, 8) : Nat × Nat) = k_shp 0
      decide +kernel
    · rfl
    · rw [r_mk, if_neg (by omega)]
      show (if (-2 : Int) = -2 then (sc.2 (j : Int).toNat).toInt else 0) = _
      rw [if_pos rfl, Int.toNat_natCast]
    · rw [if_neg (by omega)]; rfl
  obtain ⟨A4, t4, e4, d4, b4⟩ := i_X8 d1
  obtain ⟨A11, e11, d11⟩ := i_X9 d4 (by omega) (by omega) (by omega) (by decide +kernel) (by decide +kernel) (by decide +kernel) (by decide +kernel) (by decide +kernel) (by decide +kernel) (by decide +kernel) (by decide +kernel) (by decide +kernel) (by decide +kernel) (by decide +kernel) (by decide +kernel) (by decide +kernel) (by decide +kernel) (by decide +kernel) (by decide +kernel) (by decide +kernel) (by decide +kernel) (by decide +kernel) (by decide +kernel) (by decide +kernel) (by decide +kernel) (by decide +kernel) (by decide +kernel) (by decide +kernel) (by decide +kernel) (by decide +kernel) (by decide +kernel) (by decide +kernel) (by decide +kernel) (by decide +kernel)
  have w := i_wf d11
  have r := i_rel d11
  obtain ⟨N, hN⟩ := p_FU (sc.1 / 7 + 1) (by have : k_FU = 1073741824 := rfl; omega)
  obtain ⟨A', sc', f1, f2, f3, f4⟩ := l_loop (sc.1 / 7) N (sc, 152, _) _ 0 w r hL (by omega) (by show (0 : Int) + 7 * ((sc.1 / 7 : Nat) : Int) ≤ (sc.1 : Int); omega) (by show (sc.1 : Int) < 0 + 7 * ((sc.1 / 7 : Nat) : Int) + 7; omega)
  have u : k_U A' = sc'.2.1 := by unfold k_U; rw [f2.1]
  have tt : k_T A' = sc'.2.2 := by unfold k_T; rw [f2.1]
  refine ⟨A', ?_, ?_, ?_⟩
  · have n0 : k_N (k_A0 sc) = 0 := rfl
    have n4 : k_N A4 = 120 := d4.1
    have n11 : k_N A11 = 151 := d11.1
    have c0 : ((0 : Nat) : Int) = 0 := rfl
    have c121 : ((120 : Nat) : Int) = 120 := rfl
    have c152 : ((151 : Nat) : Int) = 151 := rfl
    have f1' : fL_law_h23 k_FU (k_mk A11 22 1) 0 120 151 0 = some (1, A') := by rw [hN]; exact f1
    rw [c121] at e11
    unfold fL_law_b0
    rw [p_lt, n0, c0, if_pos (by omega), e4, k_bds, if_pos (by omega), p_lt, n4, c121, if_pos (by omega), e11, k_bds, if_pos (by omega), p_lt, n11, c152, if_pos (by omega), f1']
  · rw [u]
    have : sc'.2.1 ≤ 152 + sc.1 / 7 := f3
    omega
  · rw [tt]
    have f4' : sc'.2.2 ≤ (t4 + 22937 + 1) + 6 * (sc.1 / 7) := f4
    omega
