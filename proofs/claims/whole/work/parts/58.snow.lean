/-! snow -/
theorem z_rp (A : k_H) (a o r h b j : Int) : k_rd (z_put A a o r h) b j = if r ≠ -2 ∧ b = a ∧ j = o + r then h else k_rd A b j := by
  unfold z_put
  by_cases q : r = -2
  · rw [if_pos q, if_neg (fun z => z.1 q)]
  · rw [if_neg q, p_rw]
    by_cases w : b = a ∧ j = o + r
    · rw [if_pos w, if_pos ⟨q, w⟩]
    · rw [if_neg w, if_neg (fun z => w z.2)]
theorem z_rn {A : k_H} {a o r h b j : Int} (q : b ≠ a ∨ j ≠ o + r) : k_rd (z_put A a o r h) b j = k_rd A b j := by
  rw [z_rp, if_neg]; omega
theorem p_agz {P : Int → Int → Prop} {A B : k_H} {a o r h : Int} (k : p_ag P A B) (hn : ∀ i, ¬ P a i) : p_ag P A (z_put B a o r h) := by
  unfold z_put
  split
  · exact k
  · exact p_agw k (hn _)
noncomputable def z_fr (A : k_H) (h k : Int) : Int := @ite Int (∃ t : Int, 0 ≤ t ∧ t < k_rd A 120 21 ∧ k_rd A (72 + 8 * t + 3) k = h) (Classical.propDecidable _) 0 1
theorem z_fr1 {A : k_H} {h k : Int} (z : z_at A h k (-1)) : z_fr A h k = 1 := by
  unfold z_fr
  rw [if_neg]
  rintro ⟨t, a, b, c⟩
  rcases z with z | z
  · exact z.2 t a b c
  · omega
theorem z_fr0 {A : k_H} {h k s : Int} (z : z_at A h k s) (hs : 0 ≤ s) : z_fr A h k = 0 := by
  unfold z_fr
  rw [if_pos]
  rcases z with z | z
  · omega
  · exact ⟨s, z.1, z.2.1, z.2.2.1⟩
def z_T (A : k_H) (s n : Int) (k : Int) : Int := if k = n then -1 else k_rd A (72 + 8 * s + 3) k
def z_U (T : Int → Int) (k h : Int) (j : Int) : Int := if j = k then h else T j
noncomputable def z_G (A : k_H) (s n h : Int) (k : Int) : Int := if z_T A s n k < 0 ∧ z_fr A h k = 1 then z_law (z_U (z_T A s n) k h) (k_rd A 122) (k_rd A 123) (fun _ => 1) (k_rd A 134 s) (k_rd A 135 s) 14 0 (-1) 0 else 0
def z_C (A : k_H) (s n : Int) : k_H := k_wt (k_wt A (72 + 8 * s + 3) n (-1)) (72 + 8 * s + 4) n (-1)
section
variable {A : k_H} {s n h : Int}
theorem z_Ct {t k : Int} (hs : 0 ≤ s ∧ s < 6) (ht : 0 ≤ t ∧ t < 6) : k_rd (z_C A s n) (72 + 8 * t + 3) k = if t = s ∧ k = n then -1 else k_rd A (72 + 8 * t + 3) k := by
  unfold z_C
  rw [p_rwn (by omega), p_rw]
  by_cases q : t = s ∧ k = n
  · rw [if_pos (by omega), if_pos q]
  · rw [if_neg (by omega), if_neg q]
theorem z_Cn {a i : Int} (q : a ≠ 72 + 8 * s + 3) (w : a ≠ 72 + 8 * s + 4) : k_rd (z_C A s n) a i = k_rd A a i := by
  unfold z_C
  rw [p_rwn (Or.inl w), p_rwn (Or.inl q)]
theorem c_move (r : Rel A) (hh : 0 ≤ h ∧ h < k_rd A 120 20) (hn : 0 ≤ n ∧ n < 14) (hs : 0 ≤ s ∧ s < k_rd A 120 21) {k : Int} (hk : n < k ∧ k < 14) : gX8_canMove (z_C A s n) (72 + 8 * s) h k = some (z_G A s n h k, z_C A s n) := by
  have hS := r.2.2.2.1.2.2.1
  have hS0 := r.2.2.2.1.2.1
  have eS := r.2.2.2.1.1
  have hH := r.2.1
  have hH1 := hH.1
  have hH2 := hH.2.2.1
  have hQ := (r.2.2.2.1.2.2.2 s hs.1 (by omega)).2.2.2.2 hs.2
  obtain ⟨s1, z1⟩ := z_atE r (h := h) (n := k) hh.1 (by omega)
  have e0 : ∀ t : Int, 0 ≤ t → t < 6 → k_rd (z_C A s n) (72 + 8 * t + 3) k = k_rd A (72 + 8 * t + 3) k := fun t a b => by rw [z_Ct (by omega) (by omega), if_neg (by omega)]
  have e7 : k_rd (z_C A s n) 0 7 = k_rd A 0 7 := z_Cn (by omega) (by omega)
  have e21 : k_rd (z_C A s n) 120 21 = k_rd A 120 21 := z_Cn (by omega) (by omega)
  have e6 : k_rd (z_C A s n) 0 6 = k_rd A 0 6 := z_Cn (by omega) (by omega)
  have z2 : z_at (z_C A s n) h k s1 := by
    unfold z_at
    rw [e21]
    rcases z1 with z | z
    · exact Or.inl ⟨z.1, fun t a b => by rw [e0 t a (by omega)]; exact z.2 t a b⟩
    · exact Or.inr ⟨z.1, z.2.1, by rw [e0 s1 (by omega) (by omega)]; exact z.2.2.1, fun t a b c => by rw [e0 t a b]; exact z.2.2.2 t a b c⟩
  have sh := c_at (by rw [e7, e21]; exact eS) (by omega) (by omega) (by omega) z2
  unfold gX8_canMove gX8_canMove_b0
  rw [if_pos (by omega), e0 s (by omega) (by omega), sh, k_bds]
  have tk : z_T A s n k = k_rd A (72 + 8 * s + 3) k := by unfold z_T; rw [if_neg (by omega)]
  have lk := (r.2.2.2.2.1 s k hs.1 (by omega) (by omega) (by omega)).2.2.1
  unfold z_G
  rw [tk]
  by_cases q : k_rd A (72 + 8 * s + 3) k = -1
  · rw [if_pos q]
    by_cases w : s1 = -1
    · subst w
      rw [if_pos rfl, if_pos ⟨by omega, z_fr1 z1⟩]
      simp only [p_lt]
      have cl := c_law (A := k_wt (z_C A s n) (72 + 8 * s + 3) k h) (s := s) (mi := k_rd A 134 s) (ro := k_rd A 135 s) (T := z_U (z_T A s n) k h) (X := k_rd A 122) (Y := k_rd A 123) (by omega) (fun j a b => by
          rw [p_rw, p_rwn (b := 0) (by omega), e6]
          unfold z_U z_T
          by_cases y : j = k
          · rw [if_pos ⟨rfl, y⟩, if_pos y]; omega
          · rw [if_neg (fun z => y z.2), if_neg y, z_Ct (by omega) (by omega)]
            have := (r.2.2.2.2.1 s j hs.1 (by omega) a b).2.2.1
            by_cases x : j = n
            · rw [if_pos ⟨rfl, x⟩, if_pos x]; omega
            · rw [if_neg (fun z => x z.2), if_neg x]; omega) (by rw [p_rwn (by omega), e6]; omega) (fun g a b => by rw [p_rwn (by omega), z_Cn (by omega) (by omega)]; exact (hH.2.2.2 g a b).1.1) (fun g a b => by rw [p_rwn (by omega), z_Cn (by omega) (by omega)]; exact (hH.2.2.2 g a b).2.1.1) (fun g a b => (hH.2.2.2 g a b).1.2) (fun g a b => (hH.2.2.2 g a b).2.1.2) (by rw [p_rwn (by omega), z_Cn (by omega) (by omega)]; exact hQ.2.2.1) (by omega) (by rw [p_rwn (by omega), z_Cn (by omega) (by omega)]; exact hQ.2.2.2.1)
      obtain ⟨N, hN⟩ := p_FU 15 (by decide)
      have cl2 := cl 14 N 0 (-1) 0 (by omega) (by omega) (by omega) (by omega) (by omega) (by omega) (by omega)
      rw [if_pos (by omega)] at cl2
      have cl3 : gX8_keepsWaysAndRests (k_wt (z_C A s n) (72 + 8 * s + 3) k h) (72 + 8 * s) = some (z_law (z_U (z_T A s n) k h) (k_rd A 122) (k_rd A 123) (fun _ => 1) (k_rd A 134 s) (k_rd A 135 s) 14 0 (-1) 0, k_wt (z_C A s n) (72 + 8 * s + 3) k h) := by
        unfold gX8_keepsWaysAndRests gX8_keepsWaysAndRests_b0
        rw [hN]
        exact cl2
      rw [cl3, k_bds, p_wtb (by rw [e0 s (by omega) (by omega)]; exact q), if_pos (z_law01 _ _ _ _)]
    · have : 0 ≤ s1 := by rcases z1 with z | z <;> omega
      rw [if_neg w, if_neg (fun y => by rw [z_fr0 z1 this] at y; omega)]
  · rw [if_neg q, if_neg (by omega)]
theorem m_move (r : Rel A) (hh : 0 ≤ h ∧ h < k_rd A 120 20) (hn : 0 ≤ n ∧ n < 14) (hs : 0 ≤ s ∧ s < k_rd A 120 21) {k : Int} (hk : n < k ∧ k < 14) {B : k_H} (hB : ∀ a i : Int, (a = 122 ∨ a = 123 ∨ a = 134 ∨ a = 135 ∨ (a = 120 ∧ i = 21)) → k_rd B a i = k_rd A a i) (hB2 : ∀ t j : Int, 0 ≤ t → t < 6 → 0 ≤ j → j < 14 → k_rd B 139 (14 * t + j) = if t = s ∧ j = n then -1 else k_rd A 139 (14 * t + j)) : (0 ≤ k_rd B 139 (14 * s + k) → z_G A s n h k = 0) ∧ -1 ≤ k_rd B 139 (14 * s + k) ∧ (k_rd B 139 (14 * s + k) < 0 → gX9_isLawful (k_wt B 139 (14 * s + k) h) s = some (z_G A s n h k, k_wt B 139 (14 * s + k) h)) := by
  have hS := r.2.2.2.1.2.2.1
  have hS0 := r.2.2.2.1.2.1
  have hH := r.2.1
  have hH1 := hH.1
  have hH2 := hH.2.2.1
  have hQ := (r.2.2.2.1.2.2.2 s hs.1 (by omega)).2.2.2.2 hs.2
  obtain ⟨s1, z1⟩ := z_atE r (h := h) (n := k) hh.1 (by omega)
  have tk : z_T A s n k = k_rd A (72 + 8 * s + 3) k := by unfold z_T; rw [if_neg (by omega)]
  have lk := r.2.2.2.2.1 s k hs.1 (by omega) (by omega) (by omega)
  have lq := (lk.1 hs.2).1
  have lr := lk.2.2.1
  have b1 : k_rd B 139 (14 * s + k) = k_rd A (72 + 8 * s + 3) k := by rw [hB2 s k (by omega) (by omega) (by omega) (by omega), if_neg (by omega), lq]
  rw [b1]
  refine ⟨fun q => ?_, by omega, fun q => ?_⟩
  · unfold z_G; rw [tk, if_neg (by omega)]
  · have q1 : k_rd A (72 + 8 * s + 3) k = -1 := by omega
    have rd : ∀ t j : Int, 0 ≤ t → t < k_rd A 120 21 → 0 ≤ j → j < 14 → k_rd (k_wt B 139 (14 * s + k) h) 139 (14 * t + j) = if t = s ∧ j = k then h else if t = s ∧ j = n then -1 else k_rd A (72 + 8 * t + 3) j := by
      intro t j a b c d
      rw [p_rw, hB2 t j a (by omega) c d]
      have := ((r.2.2.2.2.1 t j a (by omega) c d).1 b).1
      by_cases y : t = s ∧ j = k
      · rw [if_pos (by omega), if_pos y]
      · rw [if_neg (by omega), if_neg y, this]
    have hF : ∀ j : Int, 0 ≤ j → j < 14 → 0 ≤ z_U (z_T A s n) k h j → gX9_isFree (k_wt B 139 (14 * s + k) h) s (z_U (z_T A s n) k h j) j = some ((fun j => if j = k then z_fr A h k else 1) j, k_wt B 139 (14 * s + k) h) := by
      intro j a b c
      have fr := m_free (A := k_wt B 139 (14 * s + k) h) (s := s) (h := z_U (z_T A s n) k h j) (n := j) (S := k_rd A 120 21) (by rw [p_rwn (by omega), hB 120 21 (by omega)]) hS0 hS ⟨a, b⟩
      unfold z_U at c fr ⊢
      by_cases y : j = k
      · subst y
        simp only [if_true] at c fr ⊢
        by_cases w : s1 = -1
        · subst w
          rw [z_fr1 z1]
          refine fr.1 (fun t t0 t1 t2 => ?_)
          rw [rd t j t0 t1 a b, if_neg (by omega), if_neg (by omega)]
          rcases z1 with z | z
          · exact z.2 t t0 t1
          · omega
        · have w0 : 0 ≤ s1 := by rcases z1 with z | z <;> omega
          rw [z_fr0 z1 w0]
          rcases z1 with z | z
          · omega
          · refine fr.2 ⟨s1, w0, z.2.1, fun y => ?_, ?_⟩
            · subst y; omega
            · have : s1 ≠ s := fun y => by subst y; omega
              rw [rd s1 j w0 z.2.1 a b, if_neg (by omega), if_neg (by omega)]; exact z.2.2.1
      · simp only [if_neg y] at c fr ⊢
        refine fr.1 (fun t t0 t1 t2 => ?_)
        rw [rd t j t0 t1 a b, if_neg (by omega), if_neg (by omega)]
        unfold z_T at c ⊢
        by_cases x : j = n
        · rw [if_pos x] at c; omega
        · rw [if_neg x] at c ⊢
          intro e
          have := (r.2.2.2.2.1 s j hs.1 (by omega) a b).2.2.2 t t0 (by omega) t2 e
          omega
    have ml := m_law (A := k_wt B 139 (14 * s + k) h) (s := s) (mi := k_rd A 134 s) (ro := k_rd A 135 s) (T := z_U (z_T A s n) k h) (X := k_rd A 122) (Y := k_rd A 123) (F := fun j => if j = k then z_fr A h k else 1) (by omega) (fun j a b => by
        rw [rd s j hs.1 hs.2 a b]
        unfold z_U z_T
        have := (r.2.2.2.2.1 s j hs.1 (by omega) a b).2.2.1
        by_cases y : j = k
        · rw [if_pos ⟨rfl, y⟩, if_pos y]; omega
        · rw [if_neg (fun z => y z.2), if_neg y]
          by_cases x : j = n
          · rw [if_pos ⟨rfl, x⟩, if_pos x]; omega
          · rw [if_neg (fun z => x z.2), if_neg x]; omega) (fun g a b => by rw [p_rwn (by omega), hB _ _ (by omega)]) (fun g a b => by rw [p_rwn (by omega), hB _ _ (by omega)]) (fun g a b => (hH.2.2.2 g a b).1.2) (fun g a b => (hH.2.2.2 g a b).2.1.2) (by rw [p_rwn (by omega), hB _ _ (by omega)]) (by omega) (by rw [p_rwn (by omega), hB _ _ (by omega)]) hF
    obtain ⟨N, hN⟩ := p_FU 15 (by decide)
    have ml2 := ml 14 N 0 (-1) 0 (by omega) (by omega) (by omega) (by omega) (by omega) (by omega) (by omega)
    unfold gX9_isLawful gX9_isLawful_b0
    rw [hN]
    refine ml2.trans ?_
    unfold z_G
    rw [tk]
    by_cases w : s1 = -1
    · subst w
      rw [if_pos ⟨by omega, z_fr1 z1⟩]
      rw [z_lawF (G := fun _ => 1) 14 0 (-1) 0 (fun j a b c => by
        have := z_fr1 z1
        show (if j = k then z_fr A h k else 1) = 0 ↔ (1 : Int) = 0
        rw [this]; split <;> omega)]
    · have w0 : 0 ≤ s1 := by rcases z1 with z | z <;> omega
      have fz := z_fr0 z1 w0
      rw [if_neg (by omega)]
      rw [z_law0 14 0 (-1) 0 ⟨k, by omega, by omega, by unfold z_U; rw [if_pos rfl]; omega, by show (if k = k then z_fr A h k else 1) = 0; rw [if_pos rfl, fz]⟩]
end
