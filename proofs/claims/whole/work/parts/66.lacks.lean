/-! lacks, both sides -/
theorem q_enI {m : Nat} (hm : 0 < m) : ∀ (k : Nat) (l : Int) (a b : Int → Int), q_va m k l a → q_va m k l b → q_en m k l a = q_en m k l b → ∀ j : Int, l ≤ j → j < l + k → a j = b j := by
  intro k
  induction k with
  | zero => intro l a b _ _ _ j x y; exfalso; omega
  | succ k ih =>
    intro l a b va vb e j x y
    have u := va l (by omega) (by omega)
    have v := vb l (by omega) (by omega)
    have md : ∀ c : Int → Int, 0 ≤ c l → c l < m → q_en m (k + 1) l c % m = c l ∧ q_en m (k + 1) l c / m = q_en m k (l + 1) c := by
      intro c c0 c1
      constructor
      · rw [q_en, Int.add_mul_emod_self_left, Int.emod_eq_of_lt c0 c1]
      · rw [q_en, Int.add_mul_ediv_left _ _ (by omega), Int.ediv_eq_zero_of_lt c0 c1, Int.zero_add]
    have m1 := md a u.1 u.2
    have m2 := md b v.1 v.2
    rw [e] at m1
    by_cases z : j = l
    · rw [z, ← m1.1, m2.1]
    · exact ih (l + 1) a b (fun j x y => va j (by omega) (by omega)) (fun j x y => vb j (by omega) (by omega)) (by rw [← m1.2, m2.2]) j (by omega) (by omega)
section
variable {A : k_H} {s h n : Int} {m : Nat} {P w : Int → Int}
theorem m_lacks (hs : 0 ≤ s ∧ s < 6) (hh : 0 ≤ h ∧ h < 12) (hn : k_rd A 130 s = n) (hn8 : 0 ≤ n ∧ n ≤ 8) (hm : k_rd A 126 h = m) (hm0 : 0 < m) (hm4 : m ≤ 4) (hP : ∀ c : Int, 0 ≤ c → c < m → k_rd A 127 (4 * h + c) = P c ∧ 0 ≤ P c ∧ P c ≤ 255) (hw : ∀ j : Int, 0 ≤ j → j < n → k_rd A 131 (8 * s + j) = w j ∧ 0 ≤ w j ∧ w j ≤ 255) : ∃ L C, gX9_lacks_h28 k_FU A s h 1 0 = some (L, C) ∧ (∀ a i : Int, a ≠ 138 → k_rd C a i = k_rd A a i) ∧ (∃ a, q_va m n.toNat 0 a ∧ L = q_cost w n.toNat 0 P a) ∧ ∀ a, q_va m n.toNat 0 a → L ≤ q_cost w n.toNat 0 P a := by
  have pw : ∀ m k : Nat, m ≤ 4 → k ≤ 8 → m ^ k ≤ 65536 := by
    have : ∀ m : Fin 5, ∀ k : Fin 9, m.val ^ k.val ≤ 65536 := by decide +kernel
    exact fun m k a b => this ⟨m, by omega⟩ ⟨k, by omega⟩
  have st := p_it (fun N (p : Int × Int) => gX9_lacks_h28 N A s h p.1 p.2) (fun k => (((m ^ k : Nat) : Int), (k : Int))) n.toNat (fun N k hk => by
    show gX9_lacks_h28 (N + 1) A s h ((m ^ k : Nat) : Int) k = gX9_lacks_h28 N A s h ((m ^ (k + 1) : Nat) : Int) ((k + 1 : Nat) : Int)
    have p1 := pw m (k + 1) hm4 (by omega)
    have e : ((m ^ k : Nat) : Int) * (m : Int) = ((m ^ (k + 1) : Nat) : Int) := by rw [Nat.pow_succ, Int.natCast_mul]
    rw [gX9_lacks_h28, if_pos (by omega), hn, if_pos (by omega), if_pos (by omega), hm, e, k_wr_of (x := (k : Int) + 1) (by omega) (by omega), k_wr_of (x := ((m ^ (k + 1) : Nat) : Int)) (by omega) (by omega)]
    rfl)
  obtain ⟨N, hN⟩ := p_FU (n.toNat + 1) (by have : k_FU = 1073741824 := rfl; omega)
  have e : N + (n.toNat + 1) = (N + 1) + n.toNat := by omega
  have go : gX9_lacks_h28 k_FU A s h 1 0 = gX9_lacks_h60 k_FU A s h ((m ^ n.toNat : Nat) : Int) (-1) 0 := by
    have e0 : gX9_lacks_h28 k_FU A s h 1 0 = gX9_lacks_h28 ((N + 1) + n.toNat) A s h 1 0 := by rw [hN, e]
    have s1 : gX9_lacks_h28 ((N + 1) + n.toNat) A s h ((m ^ 0 : Nat) : Int) 0 = gX9_lacks_h28 (N + 1) A s h ((m ^ n.toNat : Nat) : Int) (n.toNat : Int) := st (N + 1)
    have s2 : ((m ^ 0 : Nat) : Int) = 1 := by simp
    rw [s2] at s1
    rw [e0, s1, gX9_lacks_h28, if_pos (by omega), hn, if_neg (by omega)]
  have pn := pw m n.toNat hm4 (by omega)
  have lp : ∀ (d N : Nat) (x L : Int) (g : Int → Int), 0 ≤ x → x + d = ((m ^ n.toNat : Nat) : Int) → ((x = 0 ∧ L = -1) ∨ ((∃ a, q_va m n.toNat 0 a ∧ L = q_cost w n.toNat 0 P a) ∧ ∀ a, q_va m n.toNat 0 a → q_en m n.toNat 0 a < x → L ≤ q_cost w n.toNat 0 P a)) → ∃ L' g', gX9_lacks_h60 (N + d + 1) (q_put A 138 g) s h ((m ^ n.toNat : Nat) : Int) L x = some (L', q_put A 138 g') ∧ ((((m ^ n.toNat : Nat) : Int) = 0 ∧ L' = -1) ∨ ((∃ a, q_va m n.toNat 0 a ∧ L' = q_cost w n.toNat 0 P a) ∧ ∀ a, q_va m n.toNat 0 a → q_en m n.toNat 0 a < ((m ^ n.toNat : Nat) : Int) → L' ≤ q_cost w n.toNat 0 P a)) := by
    intro d
    induction d with
    | zero =>
      intro N x L g x0 xd inv
      have : x = ((m ^ n.toNat : Nat) : Int) := by omega
      subst this
      exact ⟨L, g, by rw [gX9_lacks_h60, if_neg (by omega)], inv⟩
    | succ d ih =>
      intro N x L g x0 xd inv
      show ∃ L' g', gX9_lacks_h60 ((N + d + 1) + 1) (q_put A 138 g) s h ((m ^ n.toNat : Nat) : Int) L x = _ ∧ _
      obtain ⟨a, va, ea⟩ := q_enS hm0 n.toNat 0 x x0 (by omega)
      obtain ⟨g', eg⟩ := m_way (A := A) (n := n) (m := m) (P := P) (w := w) (gX9_lacks_h60 (N + d + 1)) hs hh hn hn8 hm hm0 hm4 hP hw (W := ((m ^ n.toNat : Nat) : Int)) (L := L) va g
      rw [ea] at eg
      rw [gX9_lacks_h60, if_pos (by omega), eg, k_wr_of (x := x + 1) (by omega) (by omega)]
      have c0 := q_cost0 (w := w) n.toNat 0 P a
      refine ih N (x + 1) _ g' (by omega) (by omega) (Or.inr ⟨?_, fun b vb eb => ?_⟩)
      · by_cases z : L < 0 ∨ q_cost w n.toNat 0 P a < L
        · rw [if_pos z]; exact ⟨a, va, rfl⟩
        · rw [if_neg z]
          rcases inv with i | i
          · omega
          · exact i.1
      · have hb : q_en m n.toNat 0 b < x → (if L < 0 ∨ q_cost w n.toNat 0 P a < L then q_cost w n.toNat 0 P a else L) ≤ q_cost w n.toNat 0 P b := by
          intro lt
          rcases inv with i | i
          · have := (q_enB n.toNat 0 b vb).1; omega
          · have i2 := i.2 b vb lt
            obtain ⟨y, vy, ey⟩ := i.1
            have := q_cost0 (w := w) n.toNat 0 P y
            split <;> omega
        by_cases z : q_en m n.toNat 0 b < x
        · exact hb z
        · have ab := q_enI hm0 n.toNat 0 b a vb va (by omega)
          rw [q_costE n.toNat 0 P b a ab]
          split <;> omega
  have w1 : 0 < m ^ n.toNat := Nat.pow_pos hm0
  obtain ⟨N2, hN2⟩ := p_FU (m ^ n.toNat + 1) (by have : k_FU = 1073741824 := rfl; omega)
  have hN3 : k_FU = N2 + m ^ n.toNat + 1 := hN2
  obtain ⟨L, g', e1, e2⟩ := lp (m ^ n.toNat) N2 0 (-1) (k_rd A 138) (by omega) (by omega) (Or.inl ⟨rfl, rfl⟩)
  rw [← hN3, q_pid] at e1
  refine ⟨L, q_put A 138 g', by rw [go]; exact e1, fun a i q => q_pn q, ?_, ?_⟩
  · rcases e2 with z | z
    · omega
    · exact z.1
  · intro a va
    rcases e2 with z | z
    · omega
    · exact z.2 a va (q_enB n.toNat 0 a va).2
theorem c_lacks (hs : 0 ≤ s ∧ s < 6) (hh : 0 ≤ h ∧ h < 12) (hn : k_rd A (72 + 8 * s + 1) 1 = n) (hn8 : 0 ≤ n ∧ n ≤ 8) (hm : k_rd A (24 + 4 * h + 1) 1 = m) (hm0 : 0 < m) (hm4 : m ≤ 4) (hP : ∀ c : Int, 0 ≤ c → c < m → k_rd A (24 + 4 * h + 1 + 1) c = P c ∧ 0 ≤ P c ∧ P c ≤ 255) (hw : ∀ j : Int, 0 ≤ j → j < n → k_rd A (72 + 8 * s + 1 + 1) j = w j ∧ 0 ≤ w j ∧ w j ≤ 255) : ∃ L C, gX3_leastLack A (72 + 8 * s + 1) (24 + 4 * h + 1) = some (L, C) ∧ (∀ a i : Int, a < 5 ∨ 11 < a → k_rd C a i = k_rd A a i) ∧ (∃ a, q_va m n.toNat 0 a ∧ L = q_cost w n.toNat 0 P a) ∧ ∀ a, q_va m n.toNat 0 a → L ≤ q_cost w n.toNat 0 P a := by
  obtain ⟨B, b1, b2, b3⟩ := c_sear hs hh hn hn8 hm hm4 hP hw
  have ab := q_afB (w := w) (B := 255) n.toNat 0 (fun j x y => (hw j x (by omega)).2)
  obtain ⟨C, c1, c2, c3, c4, c5, c6⟩ := b3 (q_af w n.toNat 0 + 1) (by omega) (by omega)
  unfold gX3_leastLack gX3_leastLack_b0
  rw [b1, k_bds, p_lt, b2, k_wr_of (x := q_af w n.toNat 0 + 1) (by omega) (by omega), c1, k_bds]
  refine ⟨k_rd C 5 8, C, rfl, c2, ?_, c5⟩
  have v0 : q_va m n.toNat 0 (fun _ => 0) := fun j x y => by show (0 : Int) ≤ 0 ∧ (0 : Int) < m; omega
  have h1 := c5 _ v0
  have h2 := q_ub (w := w) n.toNat 0 P (fun _ => 0) v0 (fun c x y => (hP c x y).2.1) (fun j x y => (hw j x (by omega)).2.1)
  obtain ⟨a, va, ea, _⟩ := c6 (by omega)
  exact ⟨a, va, ea⟩
end
theorem o_lacks {A : k_H} {s h : Int} (r : Rel A) : p_ok A (fun A => gX8_lacks A s h) (fun A => gX9_lacks A s h) := by
  have eS := r.2.2.2.1.1
  have hS := r.2.2.2.1.2.2.1
  have eH := r.2.1.1
  have hH := r.2.1.2.2.1
  unfold p_ok
  simp only [gX8_lacks, gX8_lacks_b0, gX9_lacks, gX9_lacks_b0, p_lt, h_X8isHall, h_X9isHall, h_X8isShow, h_X9isShow, k_bds, p_b0]
  rw [eH, eS]
  by_cases h0 : 0 ≤ s ∧ s < k_rd A 120 21
  · by_cases h1 : 0 ≤ h ∧ h < k_rd A 120 20
    · have qH := r.2.1.2.2.2 h h1.1 (by omega)
      have qS := r.2.2.2.1.2.2.2 s h0.1 (by omega)
      have m0 := qH.2.2.2.2.1.2.2.2 h1.2
      obtain ⟨m, hm⟩ : ∃ m : Nat, k_rd A 126 h = m := ⟨(k_rd A 126 h).toNat, by omega⟩
      obtain ⟨L, C, e1, f1, ⟨a, va, ea⟩, la⟩ := c_lacks (A := A) (s := s) (h := h) (n := k_rd A 130 s) (m := m) (P := q_Pf A h) (w := q_Wf A s) (by omega) (by omega) qS.2.2.1.1 (by omega) (by rw [← hm]; exact qH.2.2.2.2.1.1) (by omega) (by omega) (fun c x y => qH.2.2.2.2.2 c x (by omega)) (fun j x y => qS.2.2.2.1 j x (by omega))
      obtain ⟨L2, D, e2, f2, ⟨b, vb, eb⟩, lb⟩ := m_lacks (A := k_wt C 120 0 0) (s := s) (h := h) (n := k_rd A 130 s) (m := m) (P := q_Pf A h) (w := q_Wf A s) (by omega) (by omega) (by rw [p_rwn (by omega), f1 _ _ (by omega)]) (by omega) (by rw [p_rwn (by omega), f1 _ _ (by omega)]; exact hm) (by omega) (by omega) (fun c x y => by rw [p_rwn (by omega), f1 _ _ (by omega)]; exact ⟨rfl, (qH.2.2.2.2.2 c x (by omega)).2⟩) (fun j x y => by rw [p_rwn (by omega), f1 _ _ (by omega)]; exact ⟨rfl, (qS.2.2.2.1 j x (by omega)).2⟩)
      have ll : L2 = L := by
        have := la b vb
        have := lb a va
        omega
      refine ⟨L, C, D, ?_, ?_, p_frq r f1 (fun a i q => f2 a i q.2)⟩
      · rw [if_neg (not_not_intro h0), if_neg (not_not_intro h1), if_pos (by omega), if_pos (by omega), e1, k_bds]
      · rw [p_rwn (by omega), p_rwn (by omega), f1 _ _ (by omega), f1 _ _ (by omega), if_neg (not_not_intro h0), if_neg (not_not_intro h1), e2, ll]
    · exact ⟨-1, A, k_wt A 120 0 0, by rw [if_neg (not_not_intro h0), if_pos h1], by rw [p_rwn (by omega), p_rwn (by omega), if_neg (not_not_intro h0), if_pos h1], p_fr0 r⟩
  · exact ⟨-1, A, k_wt A 120 0 0, by rw [if_pos h0], by rw [p_rwn (by omega), if_pos h0], p_fr0 r⟩
