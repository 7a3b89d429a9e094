/-! terms: words -/
def x_cst (id c : Int) : Prop := c ≠ 0 ∧ ∃ L : Nat, k_svl (id - 30) = L ∧ 1 ≤ L ∧ L ≤ 8 ∧ (∀ n : Nat, n < L → 97 ≤ k_sbv (id - 30) n ∧ k_sbv (id - 30) n ≤ 122) ∧ x_pk (k_sbv (id - 30)) L 0 0 = c
theorem x_fee : x_cst (-10) 6710629 := ⟨by decide, 3, by decide +kernel, by decide, by decide, by decide +kernel, by decide +kernel⟩
theorem x_share : x_cst (-11) 495672455781 := ⟨by decide, 5, by decide +kernel, by decide, by decide, by decide +kernel, by decide +kernel⟩
theorem x_above : x_cst (-12) 418263299685 := ⟨by decide, 5, by decide +kernel, by decide, by decide, by decide +kernel, by decide +kernel⟩
theorem x_subs : x_cst (-13) 32498688025257081 := ⟨by decide, 7, by decide +kernel, by decide, by decide, by decide +kernel, by decide +kernel⟩
theorem x_most : x_cst (-14) 1836020596 := ⟨by decide, 4, by decide +kernel, by decide, by decide, by decide +kernel, by decide +kernel⟩
theorem x_loss : x_cst (-15) 1819243379 := ⟨by decide, 4, by decide +kernel, by decide, by decide, by decide +kernel, by decide +kernel⟩
theorem x_both : x_cst (-16) 1651471464 := ⟨by decide, 4, by decide +kernel, by decide, by decide, by decide +kernel, by decide +kernel⟩
theorem x_hall : x_cst (-17) 1751215212 := ⟨by decide, 4, by decide +kernel, by decide, by decide, by decide +kernel, by decide +kernel⟩
theorem x_km {kd : Int} (h : 0 ≤ kd ∧ kd ≤ 4) : ((if kd = 0 then 4 else if kd = 4 then 0 else kd) = 1 ↔ kd = 1) ∧ ((if kd = 0 then 4 else if kd = 4 then 0 else kd) = 2 ↔ kd = 2) ∧ ((if kd = 0 then 4 else if kd = 4 then 0 else kd) = 3 ↔ kd = 3) ∧ ((if kd = 0 then 4 else if kd = 4 then 0 else kd) = 4 ↔ kd = 0) ∧ ((if kd = 0 then 4 else if kd = 4 then 0 else kd) = 0 ↔ kd = 4) := by
  have q : kd = 0 ∨ kd = 1 ∨ kd = 2 ∨ kd = 3 ∨ kd = 4 := by omega
  rcases q with q | q | q | q | q <;> subst q <;> decide
theorem x_isW {T : Int → Int} {Ln p f kd n e w id c : Int} (hT : x_T T Ln) (p0 : 0 ≤ p) (ok : x_ok T Ln p f kd n e w) (hc : x_cst id c) : ∃ b : Int, (b = 0 ∨ b = 1) ∧ (b = 1 → kd = 1) ∧ (∀ A, x_c T Ln A → x_tc A f kd n e → gX7_isWord A id = some (b, A)) ∧ (∀ A, x_tm A f kd n e w → gX9_isWord A c = some (b, A)) := by
  obtain ⟨c0, L, hL, L1, L8, ch, pk⟩ := hc
  obtain ⟨o1, o2, o3, o4, o5, o6, o7, o8⟩ := ok
  have hL2 := hT.2.1
  have ch2 : ∀ i : Int, 0 ≤ i → i < 0 + L → 1 ≤ k_sbv (id - 30) i ∧ k_sbv (id - 30) i ≤ 255 := by
    intro i x y
    obtain ⟨j, rfl⟩ : ∃ j : Nat, i = j := ⟨i.toNat, by omega⟩
    have := ch j (by omega)
    omega
  have md : ∀ A, x_tm A f kd n e w → gX9_isWord A c = some (if kd = 1 ∧ w = c then 1 else 0, A) := by
    intro A tm
    unfold gX9_isWord gX9_isWord_b0
    rw [tm.2.1]
    have km := (x_km o4).1
    by_cases z : kd = 1
    · rw [if_pos (km.2 z), tm.2.2.2.2 z]
      by_cases y : w = c
      · rw [if_neg (by omega : ¬ c < w), if_pos y, if_pos rfl, if_pos ⟨z, y⟩]
      · rw [if_neg (fun q => y q.2 : ¬ (kd = 1 ∧ w = c))]
        by_cases y2 : c < w
        · rw [if_pos y2, if_neg (by omega)]
        · rw [if_neg y2, if_neg y, if_neg (by omega)]
    · rw [if_neg (fun q => z q.1 : ¬ (kd = 1 ∧ w = c)), if_neg (fun q => z (km.1 q))]
  by_cases k1 : kd = 1
  · have o8' := o8 k1
    have fe := o6 (by omega)
    have t1 : ∀ i : Int, f ≤ i → i < f + ((e - f).toNat : Int) → 1 ≤ T i ∧ T i ≤ 255 := fun i x y => by have := o8'.1 i x (by omega); omega
    have wq : w = c ↔ e - f = L ∧ ∀ i : Int, 0 ≤ i → i < L → T (f + i) = k_sbv (id - 30) i := by
      rw [o8'.2]
      by_cases z : e - f ≤ 8
      · rw [if_pos z, ← pk, x_pkI (e - f).toNat L t1 ch2]
        constructor
        · intro q
          refine ⟨by omega, fun i x y => ?_⟩
          have := q.2 i x (by omega)
          rw [Int.zero_add] at this
          exact this
        · intro q
          refine ⟨by omega, fun i x y => ?_⟩
          rw [Int.zero_add]
          exact q.2 i x (by omega)
      · rw [if_neg z]
        exact ⟨fun q => absurd q.symm c0, fun q => by omega⟩
    refine ⟨if kd = 1 ∧ w = c then 1 else 0, by split <;> omega, fun _ => k1, fun A hA tc => ?_, md⟩
    unfold gX7_isWord gX7_isWord_b0 gJ0_length_8abf5
    rw [tc.2.1, if_pos k1, k_bds, tc.2.2.1, tc.1, k_wr_of (x := e - f) (by omega) (by omega), hL]
    by_cases z : e - f = L
    · rw [if_pos z]
      have lp : ∀ (d N : Nat) (i : Int), 0 ≤ i → i + d = L → ∃ b : Int, gX7_isWord_h28 (N + d + 1) A id i = some (b, A) ∧ (b = 0 ∨ b = 1) ∧ (b = 1 ↔ ∀ j : Int, i ≤ j → j < L → T (f + j) = k_sbv (id - 30) j) := by
        intro d
        induction d with
        | zero =>
          intro N i i0 id2
          refine ⟨1, ?_, Or.inr rfl, fun _ j x y => by omega, fun _ => rfl⟩
          rw [gX7_isWord_h28]
          unfold gJ0_length_8abf5
          rw [k_bds, hL, if_neg (by omega)]
        | succ d ih =>
          intro N i i0 id2
          obtain ⟨b, e1, e2, e3⟩ := ih N (i + 1) (by omega) (by omega)
          show ∃ b : Int, gX7_isWord_h28 ((N + d + 1) + 1) A id i = _ ∧ _
          rw [gX7_isWord_h28]
          unfold gJ0_length_8abf5 gJ0_charAt_5068e
          rw [k_bds, hL, if_pos (by omega), tc.1, k_wr_of (x := f + i) (by omega) (by omega), h_byt hT hA (by omega), k_bds, if_pos (by omega : f + i < Ln), if_pos (by omega), k_bds, k_wr_of (x := i + 1) (by omega) (by omega)]
          by_cases y : T (f + i) = k_sbv (id - 30) i
          · rw [if_pos y]
            refine ⟨b, e1, e2, fun q j x y2 => ?_, fun q => e3.2 (fun j x y2 => q j (by omega) y2)⟩
            by_cases j2 : j = i
            · rw [j2]; exact y
            · exact e3.1 q j (by omega) y2
          · rw [if_neg y]
            exact ⟨0, rfl, Or.inl rfl, fun q => by omega, fun q => absurd (q i (by omega) (by omega)) y⟩
      obtain ⟨N, hN⟩ := p_FU (L + 1) (by have : k_FU = 1073741824 := rfl; omega)
      obtain ⟨b, e1, e2, e3⟩ := lp L N 0 (by omega) (by omega)
      have e4 : gX7_isWord_h28 k_FU A id 0 = some (b, A) := by rw [hN]; exact e1
      rw [e4]
      by_cases y : w = c
      · rw [if_pos ⟨k1, y⟩, e3.2 (wq.1 y).2]
      · rw [if_neg (fun q => y q.2)]
        rcases e2 with h | h
        · rw [h]
        · exact absurd (wq.2 ⟨z, e3.1 h⟩) y
    · rw [if_neg z, if_neg (fun q => z (wq.1 q.2).1)]
  · refine ⟨0, Or.inl rfl, fun q => by omega, fun A hA tc => ?_, fun A tm => ?_⟩
    · unfold gX7_isWord gX7_isWord_b0
      rw [tc.2.1, if_neg k1]
    · rw [md A tm, if_neg (fun q => k1 q.1)]
