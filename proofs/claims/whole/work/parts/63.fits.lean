/-! the class lays out lamps and circuits -/
theorem c_lay2 {v1 n : Int} {w : Int → Int} {A : k_H} (hshp : (k_shp (v1 + 1)).2 = 8) (hv : 24 ≤ v1) (hn8 : n ≤ 8) (hw : ∀ j : Int, 0 ≤ j → j < n → k_rd A (v1 + 1) j = w j ∧ 0 ≤ w j ∧ w j ≤ 255) : ∀ (d N : Nat) (B : k_H), d ≤ n → (∀ a i : Int, a < 7 ∨ 9 < a → k_rd B a i = k_rd A a i) → (∀ j : Int, d ≤ j → j < n → k_rd B 7 j = w j) → (∀ (k : Nat) (l : Int), d ≤ l → l + k = n → k_rd B 8 l = q_af w k l ∧ k_rd B 9 l = q_bf w k l) → ∃ C, gX3_lay_h80 (N + d + 1) B v1 ((d : Int) - 1) = some (0, C) ∧ (∀ a i : Int, a < 7 ∨ 9 < a → k_rd C a i = k_rd A a i) ∧ (∀ j : Int, 0 ≤ j → j < n → k_rd C 7 j = w j) ∧ (∀ (k : Nat) (l : Int), 0 ≤ l → l + k = n → k_rd C 8 l = q_af w k l ∧ k_rd C 9 l = q_bf w k l) := by
  intro d
  induction d with
  | zero =>
    intro N B d0 h1 h2 h3
    exact ⟨B, by rw [gX3_lay_h80, if_neg (by omega)], h1, h2, h3⟩
  | succ d ih =>
    intro N B d0 h1 h2 h3
    show ∃ C, gX3_lay_h80 ((N + d + 1) + 1) B v1 (((d + 1 : Nat) : Int) - 1) = _ ∧ _
    have e : (((d + 1 : Nat) : Int) - 1) = d := by omega
    have wd := hw d (by omega) (by omega)
    obtain ⟨kk, hk⟩ : ∃ kk : Nat, (d : Int) + 1 + kk = n := ⟨(n - d - 1).toNat, by omega⟩
    have h8 := h3 kk (d + 1) (by omega) (by omega)
    have b8 := q_afB (w := w) (B := 255) kk (d + 1) (fun j x y => (hw j (by omega) (by omega)).2)
    rw [e, gX3_lay_h80, if_pos (by omega), hshp, if_pos (by omega), if_pos (by omega), p_lt, k_wr_of (x := (d : Int) + 1) (by omega) (by omega), if_pos (by omega), if_pos (by omega), p_lt, if_pos (by omega), if_pos (by omega), p_lt, k_wr_of (x := (d : Int) + -1) (by omega) (by omega)]
    rw [p_rwn (b := 8) (by omega), h8.1, p_rwe, p_rwn (b := 9) (by omega), p_rwn (b := 9) (by omega), h8.2, p_rwn (a := 8) (b := 7) (by omega), p_rwe, h1 (v1 + 1) d (by omega), wd.1, k_wr_of (x := q_af w kk (d + 1) + w d) (by omega) (by omega)]
    refine ih N _ (by omega) (fun a i q => ?_) (fun j x y => ?_) (fun k l x y => ?_)
    · rw [p_rwn (by omega), p_rwn (by omega), p_rwn (by omega)]; exact h1 a i q
    · rw [p_rwn (by omega), p_rwn (by omega), p_rw]
      by_cases z : j = d
      · rw [if_pos ⟨rfl, z⟩, z]
      · rw [if_neg (fun q => z q.2)]; exact h2 j (by omega) y
    · rw [p_rwn (b := 8) (by omega), p_rw _ 8, p_rw _ 9]
      by_cases z : l = d
      · have ek : k = kk + 1 := by omega
        subst ek
        rw [if_pos ⟨rfl, z⟩, if_pos ⟨rfl, z⟩, q_af, q_bf, z]
        exact ⟨rfl, rfl⟩
      · rw [if_neg (fun q => z q.2), if_neg (fun q => z q.2), p_rwn (b := 8) (by omega), p_rwn (b := 9) (by omega), p_rwn (b := 9) (by omega)]
        exact h3 k l (by omega) y
theorem c_lay {A : k_H} {s h n : Int} {m : Nat} {P w : Int → Int} (hs : 0 ≤ s ∧ s < 6) (hh : 0 ≤ h ∧ h < 12) (hn : k_rd A (72 + 8 * s + 1) 1 = n) (hn8 : 0 ≤ n ∧ n ≤ 8) (hm : k_rd A (24 + 4 * h + 1) 1 = m) (hm4 : m ≤ 4) (hP : ∀ c : Int, 0 ≤ c → c < m → k_rd A (24 + 4 * h + 1 + 1) c = P c) (hw : ∀ j : Int, 0 ≤ j → j < n → k_rd A (72 + 8 * s + 1 + 1) j = w j ∧ 0 ≤ w j ∧ w j ≤ 255) : ∃ B, gX3_lay A (72 + 8 * s + 1) (24 + 4 * h + 1) = some (0, B) ∧ (∀ a i : Int, a < 5 ∨ 9 < a → k_rd B a i = k_rd A a i) ∧ k_rd B 5 6 = n ∧ k_rd B 5 7 = m ∧ (∀ c : Int, 0 ≤ c → c < m → k_rd B 6 c = P c) ∧ (∀ j : Int, 0 ≤ j → j < n → k_rd B 7 j = w j) ∧ (∀ (k : Nat) (l : Int), 0 ≤ l → l + k = n → k_rd B 8 l = q_af w k l ∧ k_rd B 9 l = q_bf w k l) := by
  unfold gX3_lay gX3_lay_b0
  rw [p_lt, p_lt, hn, p_rwn (b := 24 + 4 * h + 1) (by omega), hm, show min n 8 = n by omega, show min (m : Int) 4 = m by omega]
  have st := p_it (fun N (p : k_H × Int) => gX3_lay_h27 N p.1 (72 + 8 * s + 1) (24 + 4 * h + 1) p.2) (fun k => (tw_w (k_wt (k_wt A 5 6 n) 5 7 m) 6 0 (k_rd A (24 + 4 * h + 1 + 1)) k, (k : Int))) m (fun N k hk => by
    show gX3_lay_h27 (N + 1) (tw_w (k_wt (k_wt A 5 6 n) 5 7 m) 6 0 (k_rd A (24 + 4 * h + 1 + 1)) k) (72 + 8 * s + 1) (24 + 4 * h + 1) k = gX3_lay_h27 N (k_wt (tw_w (k_wt (k_wt A 5 6 n) 5 7 m) 6 0 (k_rd A (24 + 4 * h + 1 + 1)) k) 6 (0 + k) (k_rd A (24 + 4 * h + 1 + 1) k)) (72 + 8 * s + 1) (24 + 4 * h + 1) ((k + 1 : Nat) : Int)
    rw [gX3_lay_h27, tw_n (by omega), p_rwe, if_pos (by omega), t_shpH h hh.1 hh.2, if_pos (by omega), if_pos (by omega), p_lt, tw_n (by omega), p_rwn (by omega), p_rwn (by omega), k_wr_of (x := (k : Int) + 1) (by omega) (by omega), Int.zero_add]
    rfl)
  obtain ⟨N, hN⟩ := p_FU (m + 1) (by have : k_FU = 1073741824 := rfl; omega)
  have e : N + (m + 1) = (N + 1) + m := by omega
  rw [hN, e]
  have st2 := st (N + 1)
  have st3 : gX3_lay_h27 (N + 1 + m) (k_wt (k_wt A 5 6 n) 5 7 m) (72 + 8 * s + 1) (24 + 4 * h + 1) 0 = gX3_lay_h27 (N + 1) (tw_w (k_wt (k_wt A 5 6 n) 5 7 m) 6 0 (k_rd A (24 + 4 * h + 1 + 1)) m) (72 + 8 * s + 1) (24 + 4 * h + 1) m := st2
  rw [st3, gX3_lay_h27, tw_n (by omega), p_rwe, if_neg (by omega), tw_n (by omega), p_rwn (by omega), p_rwe, if_pos (by omega), p_lt, p_rwn (by omega), tw_n (by omega), p_rwn (by omega), p_rwe, if_pos (by omega), p_lt, p_rwn (by omega), p_rwn (by omega), tw_n (by omega), p_rwn (by omega), p_rwe]
  obtain ⟨N2, hN2⟩ := p_FU (n.toNat + 1) (by have : k_FU = 1073741824 := rfl; omega)
  have en : k_wr (n - 1) = ((n.toNat : Nat) : Int) - 1 := by rw [k_wr_of (by omega) (by omega)]; omega
  rw [hN2, en]
  obtain ⟨C, c1, c2, c3, c4⟩ := c_lay2 (v1 := 72 + 8 * s + 1) (n := n) (w := w) (A := k_wt (k_wt (tw_w (k_wt (k_wt A 5 6 n) 5 7 m) 6 0 (k_rd A (24 + 4 * h + 1 + 1)) m) 8 n 0) 9 n 0) (by rw [t_shpS s hs.1 hs.2]) (by omega) hn8.2 (fun j x y => by
    rw [p_rwn (by omega), p_rwn (by omega), tw_n (by omega), p_rwn (by omega), p_rwn (by omega)]; exact hw j x y) n.toNat N2 _ (by omega) (fun _ _ _ => rfl) (fun j x y => by omega) (fun k l x y => by
    have k0 : k = 0 := by omega
    have l0 : l = n := by omega
    subst k0 l0
    rw [p_rwn (by omega), p_rwe, p_rwe]; exact ⟨rfl, rfl⟩)
  refine ⟨C, c1, fun a i q => ?_, ?_, ?_, fun c x y => ?_, c3, c4⟩
  · rw [c2 a i (by omega), p_rwn (by omega), p_rwn (by omega), tw_n (by omega), p_rwn (by omega), p_rwn (by omega)]
  · rw [c2 _ _ (by omega), p_rwn (by omega), p_rwn (by omega), tw_n (by omega), p_rwn (by omega), p_rwe]
  · rw [c2 _ _ (by omega), p_rwn (by omega), p_rwn (by omega), tw_n (by omega), p_rwe]
  · rw [c2 _ _ (by omega), p_rwn (by omega), p_rwn (by omega), tw_r, if_pos (by omega), Int.sub_zero]; exact hP c x y
theorem q_S0 (B : k_H) (b : Int) : k_wt B 5 8 b = q_S B (k_rd B 6) (k_rd B 10) (k_rd B 11) b := by
  unfold q_S
  have e6 : k_rd B 6 = k_rd (k_wt B 5 8 b) 6 := by funext j; rw [p_rwn (by omega)]
  have e10 : k_rd B 10 = k_rd (k_wt B 5 8 b) 10 := by funext j; rw [p_rwn (by omega)]
  have e11 : k_rd B 11 = k_rd (k_wt B 5 8 b) 11 := by funext j; rw [p_rwn (by omega)]
  rw [e6, q_pid, e10, q_pid, e11, q_pid]
/-- what the class's search over one show and one hall says -/
theorem c_sear {A : k_H} {s h n : Int} {m : Nat} {P w : Int → Int} (hs : 0 ≤ s ∧ s < 6) (hh : 0 ≤ h ∧ h < 12) (hn : k_rd A (72 + 8 * s + 1) 1 = n) (hn8 : 0 ≤ n ∧ n ≤ 8) (hm : k_rd A (24 + 4 * h + 1) 1 = m) (hm4 : m ≤ 4) (hP : ∀ c : Int, 0 ≤ c → c < m → k_rd A (24 + 4 * h + 1 + 1) c = P c ∧ 0 ≤ P c ∧ P c ≤ 255) (hw : ∀ j : Int, 0 ≤ j → j < n → k_rd A (72 + 8 * s + 1 + 1) j = w j ∧ 0 ≤ w j ∧ w j ≤ 255) : ∃ B, gX3_lay A (72 + 8 * s + 1) (24 + 4 * h + 1) = some (0, B) ∧ k_rd B 8 0 = q_af w n.toNat 0 ∧ ∀ b : Int, 0 ≤ b → b ≤ 5000 → ∃ C, gX3_search (k_wt B 5 8 b) 0 0 = some (0, C) ∧ (∀ a i : Int, a < 5 ∨ 11 < a → k_rd C a i = k_rd A a i) ∧ k_rd C 5 6 = n ∧ k_rd C 5 8 ≤ b ∧ (∀ a, q_va m n.toNat 0 a → k_rd C 5 8 ≤ q_cost w n.toNat 0 P a) ∧ (k_rd C 5 8 < b → ∃ a, q_va m n.toNat 0 a ∧ k_rd C 5 8 = q_cost w n.toNat 0 P a ∧ (∀ j : Int, 0 ≤ j → j < n → k_rd C 11 j = a j) ∧ ∀ a2, q_va m n.toNat 0 a2 → q_cost w n.toNat 0 P a2 = k_rd C 5 8 → q_le n.toNat 0 a a2) := by
  obtain ⟨B, b1, b2, b3, b4, b5, b6, b7⟩ := c_lay hs hh hn hn8 hm hm4 (fun c x y => (hP c x y).1) hw
  refine ⟨B, b1, (b7 n.toNat 0 (by omega) (by omega)).1, fun b p0 p1 => ?_⟩
  obtain ⟨t', g', b', e', R⟩ := c_search (A := B) (w := w) (n := n) (m := m) b3 hn8.2 b4 hm4 (fun j x y => ⟨b6 j x y, (hw j x y).2⟩) (fun k l x y => (b7 k l x y).1) (fun k l x y => (b7 k l x y).2) n.toNat (11 - n.toNat) 0 0 (k_rd B 6) (k_rd B 10) (k_rd B 11) b (by omega) (by omega) (by omega) (by omega) (fun c x y => by rw [b5 c x y]; exact (hP c x y).2) p0 p1
  have e12 : 11 - n.toNat + n.toNat + 1 = 12 := by omega
  rw [e12] at e'
  have ce : ∀ a, q_va m n.toNat 0 a → q_cost w n.toNat 0 (k_rd B 6) a = q_cost w n.toNat 0 P a := fun a va => q_costF n.toNat 0 _ _ a va b5
  refine ⟨q_S B (k_rd B 6) t' g' b', by rw [q_S0]; exact e', fun a i q => ?_, ?_, ?_, ?_, ?_⟩
  · rw [q_Sn (by omega)]; exact b2 a i (by omega)
  · rw [q_Sn (by omega)]; exact b3
  · rw [q_S8]; rcases R.2.2 with z | z <;> omega
  · intro a va
    rw [q_S8]
    have := R.2.1 a va
    rw [ce a va] at this
    omega
  · rw [q_S8]
    intro lt
    rcases R.2.2 with z | ⟨z, a, va, a1, a2, a3⟩
    · omega
    · refine ⟨a, va, by rw [← ce a va]; omega, fun j x y => ?_, fun x vx ex => a3 x vx (by rw [ce x vx]; omega)⟩
      rw [q_S11, a2 j x y, if_neg (by omega)]
def q_res (w P : Int → Int) (m n r : Int) (g : Int → Int) : Prop := (r = 1 ∧ ∃ a, q_va m n.toNat 0 a ∧ q_cost w n.toNat 0 P a = 0 ∧ (∀ j : Int, 0 ≤ j → j < n → g j = a j) ∧ ∀ a2, q_va m n.toNat 0 a2 → q_cost w n.toNat 0 P a2 = 0 → q_le n.toNat 0 a a2) ∨ (r = 0 ∧ ∀ a, q_va m n.toNat 0 a → q_cost w n.toNat 0 P a ≠ 0)
theorem q_resU {w P : Int → Int} {m n r r2 : Int} {g g2 : Int → Int} (x : q_res w P m n r g) (y : q_res w P m n r2 g2) : r = r2 ∧ (r = 1 → ∀ j : Int, 0 ≤ j → j < n → g j = g2 j) := by
  rcases x with ⟨x0, a, va, ca, ga, la⟩ | ⟨x0, na⟩ <;> rcases y with ⟨y0, b, vb, cb, gb, lb⟩ | ⟨y0, nb⟩
  · refine ⟨by omega, fun _ j j0 j1 => ?_⟩
    rw [ga j j0 j1, gb j j0 j1]
    exact q_leA n.toNat 0 a b (la b vb cb) (lb a va ca) j (by omega) (by omega)
  · exact absurd ca (nb a va)
  · exact absurd cb (na b vb)
  · exact ⟨by omega, fun _ => by omega⟩
theorem c_canPlug {A : k_H} {s h n : Int} {m : Nat} {P w : Int → Int} (hs : 0 ≤ s ∧ s < 6) (hh : 0 ≤ h ∧ h < 12) (hn : k_rd A (72 + 8 * s + 1) 1 = n) (hn8 : 0 ≤ n ∧ n ≤ 8) (hm : k_rd A (24 + 4 * h + 1) 1 = m) (hm4 : m ≤ 4) (hP : ∀ c : Int, 0 ≤ c → c < m → k_rd A (24 + 4 * h + 1 + 1) c = P c ∧ 0 ≤ P c ∧ P c ≤ 255) (hw : ∀ j : Int, 0 ≤ j → j < n → k_rd A (72 + 8 * s + 1 + 1) j = w j ∧ 0 ≤ w j ∧ w j ≤ 255) : ∃ r C, gX3_canPlug A (72 + 8 * s + 1) (24 + 4 * h + 1) = some (r, C) ∧ (∀ a i : Int, a < 5 ∨ 11 < a → k_rd C a i = k_rd A a i) ∧ k_rd C 5 6 = n ∧ q_res w P m n r (k_rd C 11) := by
  obtain ⟨B, b1, b2, b3⟩ := c_sear hs hh hn hn8 hm hm4 hP hw
  obtain ⟨C, c1, c2, c3, c4, c5, c6⟩ := b3 1 (by omega) (by omega)
  unfold gX3_canPlug gX3_canPlug_b0
  rw [b1, k_bds, p_lt, c1, k_bds]
  by_cases z : k_rd C 5 8 = 0
  · rw [if_pos z]
    obtain ⟨a, va, a1, a2, a3⟩ := c6 (by omega)
    exact ⟨1, C, rfl, c2, c3, Or.inl ⟨rfl, a, va, by omega, a2, fun x vx ex => a3 x vx (by omega)⟩⟩
  · rw [if_neg z]
    refine ⟨0, C, rfl, c2, c3, Or.inr ⟨rfl, fun a va e => ?_⟩⟩
    have h1 := c5 a va
    obtain ⟨x, vx, x1, _⟩ := c6 (by omega)
    have := q_cost0 (w := w) n.toNat 0 P x
    omega
theorem m_plugA {A : k_H} {s h n : Int} {m : Nat} {P w : Int → Int} (hs : 0 ≤ s ∧ s < 6) (hh : 0 ≤ h ∧ h < 12) (hn : k_rd A 130 s = n) (hn8 : 0 ≤ n ∧ n ≤ 8) (hm : k_rd A 126 h = m) (hm4 : m ≤ 4) (hP : ∀ c : Int, 0 ≤ c → c < m → k_rd A 127 (4 * h + c) = P c ∧ 0 ≤ P c ∧ P c ≤ 255) (hw : ∀ j : Int, 0 ≤ j → j < n → k_rd A 131 (8 * s + j) = w j ∧ 0 ≤ w j ∧ w j ≤ 255) : ∃ r C, gX9_plug A s h = some (r, C) ∧ (∀ a i : Int, a ≠ 137 ∧ a ≠ 138 → k_rd C a i = k_rd A a i) ∧ q_res w P m n r (k_rd C 137) := by
  have st1 := p_it (fun N (p : k_H × Int) => gX9_plug_h2 N p.1 s h p.2) (fun k => (tw_w A 138 0 (fun _ => 0) k, (k : Int))) 4 (fun N k hk => by
    show gX9_plug_h2 (N + 1) (tw_w A 138 0 (fun _ => 0) k) s h k = gX9_plug_h2 N (k_wt (tw_w A 138 0 (fun _ => 0) k) 138 (0 + k) 0) s h ((k + 1 : Nat) : Int)
    rw [gX9_plug_h2, if_pos (by omega), if_pos (by omega), p_lt, k_wr_of (x := (k : Int) + 1) (by omega) (by omega), Int.zero_add]
    rfl)
  have st2 := p_it (fun N (p : k_H × Int) => gX9_plug_h25 N p.1 s h 0 p.2) (fun k => (tw_w (tw_w A 138 0 (fun _ => 0) 4) 137 0 (fun _ => -1) k, (k : Int))) 8 (fun N k hk => by
    show gX9_plug_h25 (N + 1) (tw_w (tw_w A 138 0 (fun _ => 0) 4) 137 0 (fun _ => -1) k) s h 0 k = gX9_plug_h25 N (k_wt (tw_w (tw_w A 138 0 (fun _ => 0) 4) 137 0 (fun _ => -1) k) 137 (0 + k) (-1)) s h 0 ((k + 1 : Nat) : Int)
    rw [gX9_plug_h25, if_pos (by omega), if_pos (by omega), p_lt, k_wr_of (x := (k : Int) + 1) (by omega) (by omega), Int.zero_add]
    rfl)
  obtain ⟨N1, hN1⟩ := p_FU 5 (by decide)
  obtain ⟨N2, hN2⟩ := p_FU 9 (by decide)
  generalize hD : tw_w (tw_w A 138 0 (fun _ => 0) 4) 137 0 (fun _ => -1) 8 = D at st2
  have r8 : ∀ j : Int, 0 ≤ j → j < 8 → k_rd D 137 j = -1 := fun j x y => by rw [← hD, tw_r, if_pos (by omega)]
  have r9 : ∀ j : Int, 0 ≤ j → j < 4 → k_rd D 138 j = 0 := fun j x y => by rw [← hD, tw_n (by omega), tw_r, if_pos (by omega)]
  have rn : ∀ a i : Int, a ≠ 137 ∧ a ≠ 138 → k_rd D a i = k_rd A a i := fun a i q => by rw [← hD, tw_n (by omega), tw_n (by omega)]
  have go : gX9_plug A s h = gX9_plug_h46 k_FU D s h 0 := by
    unfold gX9_plug gX9_plug_b0
    have s1 : gX9_plug_h2 (N1 + 1 + 4) A s h 0 = gX9_plug_h2 (N1 + 1) (tw_w A 138 0 (fun _ => 0) 4) s h 4 := st1 (N1 + 1)
    have s2 : gX9_plug_h25 (N2 + 1 + 8) (tw_w A 138 0 (fun _ => 0) 4) s h 0 0 = gX9_plug_h25 (N2 + 1) (tw_w (tw_w A 138 0 (fun _ => 0) 4) 137 0 (fun _ => -1) 8) s h 0 8 := by rw [hD]; exact st2 (N2 + 1)
    have e1 : k_FU = N1 + 1 + 4 := hN1
    have e2 : k_FU = N2 + 1 + 8 := hN2
    have e3 : gX9_plug_h25 k_FU (tw_w A 138 0 (fun _ => 0) 4) s h 0 0 = gX9_plug_h46 k_FU D s h 0 := by
      rw [e2, s2, gX9_plug_h25, if_neg (by omega), hD, ← e2]
    rw [e1, s1, gX9_plug_h2, if_neg (by omega), ← e1]
    exact e3
  obtain ⟨J, Jb, hJ⟩ := m_plug (A := D) (P := P) (w := w) hs hh (by rw [rn _ _ (by omega)]; exact hn) hn8.2 (by rw [rn _ _ (by omega)]; exact hm) hm4 (fun c x y => by rw [rn _ _ (by omega)]; exact hP c x y) (fun j x y => by rw [rn _ _ (by omega)]; exact hw j x y) n.toNat 0 (k_rd D 137) (k_rd D 138) (by omega) (by omega) (fun j x y => r8 j x y) (fun c x y => by rw [r9 c x y]; omega)
  have ce : ∀ a, q_va m n.toNat 0 a → q_cost w n.toNat 0 (q_fr P (k_rd D 138)) a = q_cost w n.toNat 0 P a := fun a va => q_costF n.toNat 0 _ _ a va (fun c x y => by unfold q_fr; rw [r9 c x (by omega)]; omega)
  have Jf : J ≤ k_FU := by
    have q : ∀ k : Nat, k ≤ 8 → q_FB k ≤ 1000000 := by decide
    have := q n.toNat (by omega)
    have : k_FU = 1073741824 := rfl
    omega
  obtain ⟨N, hN⟩ := p_FU J Jf
  rw [q_Pid] at hJ
  rw [go, hN]
  rcases hJ with ⟨a, i', g', va, a1, a2, a3, a4⟩ | ⟨d0, d1⟩
  · refine ⟨1, q_P D i' g', a4 N, fun x i q => ?_, Or.inl ⟨rfl, a, va, by rw [← ce a va]; exact a1, fun j x y => ?_, fun x vx ex => a2 x vx (by rw [ce x vx]; exact ex)⟩⟩
    · rw [q_Pn q]; exact rn x i q
    · rw [q_P8, a3 j x y, if_neg (by omega)]
  · refine ⟨0, D, by rw [d1 N, if_pos rfl], rn, Or.inr ⟨rfl, fun a va e => d0 a va (by rw [ce a va]; exact e)⟩⟩
