/-! lacks: the cost by loads -/
def q_ld (w : Int → Int) : Nat → Int → (Int → Int) → Int → Int
  | 0, _, _, _ => 0
  | k + 1, l, a, c => (if a l = c then w l else 0) + q_ld w k (l + 1) a c
def q_en (m : Int) : Nat → Int → (Int → Int) → Int
  | 0, _, _ => 0
  | k + 1, l, a => a l + m * q_en m k (l + 1) a
section
variable {w : Int → Int}
theorem q_ldB : ∀ (k : Nat) (l : Int) (a : Int → Int) (c : Int), (∀ j : Int, l ≤ j → j < l + k → 0 ≤ w j ∧ w j ≤ 255) → 0 ≤ q_ld w k l a c ∧ q_ld w k l a c ≤ 255 * k := by
  intro k
  induction k with
  | zero => intro l a c _; exact ⟨Int.le_refl _, by simp [q_ld]⟩
  | succ k ih =>
    intro l a c h
    have h1 := ih (l + 1) a c (fun j x y => h j (by omega) (by omega))
    have h2 := h l (by omega) (by omega)
    rw [q_ld]
    split <;> omega
theorem q_costL {m : Nat} : ∀ (k : Nat) (l : Int) (f a : Int → Int), q_va m k l a → (∀ c : Int, 0 ≤ c → c < m → 0 ≤ f c) → (∀ j : Int, l ≤ j → j < l + k → 0 ≤ w j ∧ w j ≤ 255) → q_cost w k l f a = p_sum (fun c => max 0 (q_ld w k l a c - f c)) m := by
  intro k
  induction k with
  | zero =>
    intro l f a _ hf _
    rw [q_cost]
    have := p_sumB (f := fun c => max 0 (q_ld w 0 l a c - f c)) (B := 0) m (fun c x y => by
      have := hf c x y
      show 0 ≤ max 0 (q_ld w 0 l a c - f c) ∧ max 0 (q_ld w 0 l a c - f c) ≤ 0
      rw [q_ld]; omega)
    rw [Int.mul_zero] at this
    omega
  | succ k ih =>
    intro l f a va hf hw
    have v := va l (by omega) (by omega)
    have fl := hf _ v.1 v.2
    have wl := hw l (by omega) (by omega)
    have lb := q_ldB (w := w) k (l + 1) a (a l) (fun j x y => hw j (by omega) (by omega))
    rw [q_cost, ih (l + 1) (q_up f (a l) (max 0 (f (a l) - w l))) a (fun j x y => va j (by omega) (by omega)) (fun c x y => by
      unfold q_up; split
      · omega
      · exact hf c x y) (fun j x y => hw j (by omega) (by omega))]
    have e := p_sumU (f := fun c => max 0 (q_ld w k (l + 1) a c - q_up f (a l) (max 0 (f (a l) - w l)) c)) (c := a l) (v := max 0 (q_ld w (k + 1) l a (a l) - f (a l))) m v.1 v.2
    have e2 : p_sum (fun c => max 0 (q_ld w (k + 1) l a c - f c)) m = p_sum (q_up (fun c => max 0 (q_ld w k (l + 1) a c - q_up f (a l) (max 0 (f (a l) - w l)) c)) (a l) (max 0 (q_ld w (k + 1) l a (a l) - f (a l)))) m := by
      refine p_sumE m (fun c x y => ?_)
      by_cases z : c = a l
      · rw [z, q_upe]
      · rw [q_upn z]
        show max 0 (q_ld w (k + 1) l a c - f c) = max 0 (q_ld w k (l + 1) a c - q_up f (a l) (max 0 (f (a l) - w l)) c)
        rw [q_upn z, q_ld, if_neg (fun y => z y.symm)]
        omega
    rw [e2, e]
    simp only [q_upe]
    rw [q_ld, if_pos rfl]
    omega
theorem q_enB {m : Nat} : ∀ (k : Nat) (l : Int) (a : Int → Int), q_va m k l a → 0 ≤ q_en m k l a ∧ q_en m k l a < ((m ^ k : Nat) : Int) := by
  intro k
  induction k with
  | zero => intro l a _; exact ⟨Int.le_refl _, by show (0 : Int) < ((1 : Nat) : Int); omega⟩
  | succ k ih =>
    intro l a va
    have v := va l (by omega) (by omega)
    have i := ih (l + 1) a (fun j x y => va j (by omega) (by omega))
    have e : ((m ^ (k + 1) : Nat) : Int) = (m : Int) * ((m ^ k : Nat) : Int) := by rw [Nat.pow_succ, Nat.mul_comm, Int.natCast_mul]
    have h1 : (m : Int) * (q_en m k (l + 1) a + 1) ≤ (m : Int) * ((m ^ k : Nat) : Int) := Int.mul_le_mul_of_nonneg_left (by omega) (by omega)
    have h2 : 0 ≤ (m : Int) * q_en m k (l + 1) a := Int.mul_nonneg (by omega) i.1
    rw [Int.mul_add, Int.mul_one] at h1
    rw [q_en, e]
    omega
theorem q_enS {m : Nat} (hm : 0 < m) : ∀ (k : Nat) (l x : Int), 0 ≤ x → x < ((m ^ k : Nat) : Int) → ∃ a, q_va m k l a ∧ q_en m k l a = x := by
  intro k
  induction k with
  | zero =>
    intro l x h0 h1
    have : ((m ^ 0 : Nat) : Int) = 1 := by simp
    exact ⟨fun _ => 0, fun j x y => by omega, by rw [q_en]; omega⟩
  | succ k ih =>
    intro l x h0 h1
    have e : ((m ^ (k + 1) : Nat) : Int) = ((m ^ k : Nat) : Int) * (m : Int) := by rw [Nat.pow_succ, Int.natCast_mul]
    rw [e] at h1
    obtain ⟨a, va, ea⟩ := ih (l + 1) (x / m) (Int.ediv_nonneg h0 (by omega)) (Int.ediv_lt_of_lt_mul (by omega) h1)
    have d1 := Int.emod_nonneg x (b := (m : Int)) (by omega)
    have d2 := Int.emod_lt_of_pos x (b := (m : Int)) (by omega)
    have d3 := Int.emod_add_mul_ediv x m
    have en : ∀ (k : Nat) (l : Int) (b c : Int → Int), (∀ j : Int, l ≤ j → j < l + k → b j = c j) → q_en m k l b = q_en m k l c := by
      intro k
      induction k with
      | zero => intro l b c _; rfl
      | succ k ih2 =>
        intro l b c h
        rw [q_en, q_en, h l (by omega) (by omega), ih2 (l + 1) b c (fun j x y => h j (by omega) (by omega))]
    refine ⟨q_up a l (x % m), fun j x' y => ?_, ?_⟩
    · by_cases z : j = l
      · rw [z, q_upe]; omega
      · rw [q_upn z]; exact va j (by omega) (by omega)
    · rw [q_en, q_upe, en k (l + 1) (q_up a l (x % m)) a (fun j x' y => q_upn (by omega)), ea]
      exact d3
end
/-! the reference's lacks -/
section
variable {A : k_H} {s h n : Int} {m : Nat} {P w : Int → Int}
theorem m_tot (K : k_H → Int → Int → Int → Int → Int → Option (Int × k_H)) (hh : 0 ≤ h ∧ h < 12) (hm : k_rd A 126 h = m) (hm4 : m ≤ 4) (hP : ∀ c : Int, 0 ≤ c → c < m → k_rd A 127 (4 * h + c) = P c ∧ 0 ≤ P c ∧ P c ≤ 255) {g : Int → Int} (hg : ∀ c : Int, 0 ≤ c → c < 4 → 0 ≤ g c ∧ g c ≤ 5000) {W L x : Int} : gX9_lacks_h159 K k_FU (q_put A 138 g) s h W L x 0 0 = K (q_put A 138 g) s h W (if L < 0 ∨ p_sum (fun c => max 0 (g c - P c)) m < L then p_sum (fun c => max 0 (g c - P c)) m else L) (k_wr (x + 1)) := by
  have bs : ∀ k : Nat, k ≤ m → 0 ≤ p_sum (fun c => max 0 (g c - P c)) k ∧ p_sum (fun c => max 0 (g c - P c)) k ≤ k * 5000 := fun k hk => p_sumB k (fun c x y => by
    have := hg c x (by omega)
    have := hP c x (by omega)
    show 0 ≤ max 0 (g c - P c) ∧ max 0 (g c - P c) ≤ 5000
    omega)
  have st := p_it (fun N (p : Int × Int) => gX9_lacks_h159 K N (q_put A 138 g) s h W L x p.1 p.2) (fun k => (p_sum (fun c => max 0 (g c - P c)) k, (k : Int))) m (fun N k hk => by
    show gX9_lacks_h159 K (N + 1) (q_put A 138 g) s h W L x (p_sum (fun c => max 0 (g c - P c)) k) k = gX9_lacks_h159 K N (q_put A 138 g) s h W L x (p_sum (fun c => max 0 (g c - P c)) k + max 0 (g k - P k)) ((k + 1 : Nat) : Int)
    have b0 := bs k (by omega)
    have p0 := hP k (by omega) (by omega)
    have g0 := hg k (by omega) (by omega)
    rw [gX9_lacks_h159, if_pos (by omega), q_pn (by omega), hm, if_pos (by omega), if_pos (by omega), k_wr_of (x := 4 * h) (by omega) (by omega), k_wr_of (x := 4 * h + k) (by omega) (by omega), if_pos (by omega), q_pn (by omega), p0.1, q_pe]
    simp only [gX9_lacks_b216]
    rw [k_wr_of (x := (k : Int) + 1) (by omega) (by omega), k_wr_of (x := g k - P k) (by omega) (by omega)]
    by_cases z : P k < g k
    · rw [if_pos z, k_wr_of (by omega) (by omega), show max 0 (g k - P k) = g k - P k by omega]; rfl
    · rw [if_neg z, k_wr_of (by omega) (by omega), show max 0 (g k - P k) = 0 by omega]; rfl)
  obtain ⟨N, hN⟩ := p_FU (m + 1) (by have : k_FU = 1073741824 := rfl; omega)
  have e : N + (m + 1) = (N + 1) + m := by omega
  rw [hN, e]
  refine (st (N + 1)).trans ?_
  show gX9_lacks_h159 K (N + 1) (q_put A 138 g) s h W L x (p_sum (fun c => max 0 (g c - P c)) m) m = _
  rw [gX9_lacks_h159, if_pos (by omega), q_pn (by omega), hm, if_neg (by omega)]
  simp only [gX9_lacks_b237, gX9_lacks_b244]
  by_cases z : 0 ≤ L
  · rw [if_pos z]
    by_cases y : p_sum (fun c => max 0 (g c - P c)) m < L
    · rw [if_pos y, if_pos (Or.inr y)]
    · rw [if_neg y, if_neg (by omega)]
  · rw [if_neg z, if_pos (Or.inl (by omega))]
theorem m_dist (K : k_H → Int → Int → Int → Int → Int → Option (Int × k_H)) (hs : 0 ≤ s ∧ s < 6) (hh : 0 ≤ h ∧ h < 12) (hn : k_rd A 130 s = n) (hn8 : n ≤ 8) (hm : k_rd A 126 h = m) (hm0 : 0 < m) (hm4 : m ≤ 4) (hw : ∀ j : Int, 0 ≤ j → j < n → k_rd A 131 (8 * s + j) = w j ∧ 0 ≤ w j ∧ w j ≤ 255) {W L x : Int} {a : Int → Int} : ∀ (k N : Nat) (l : Int) (g : Int → Int), 0 ≤ l → l + k = n → q_va m k l a → (∀ c : Int, 0 ≤ c → c < 4 → 0 ≤ g c ∧ g c ≤ 255 * l) → ∃ g', gX9_lacks_h96 K (N + k + 1) (q_put A 138 g) s h W L x (q_en m k l a) l = gX9_lacks_h159 K k_FU (q_put A 138 g') s h W L x 0 0 ∧ ∀ c : Int, 0 ≤ c → c < 4 → g' c = g c + q_ld w k l a c := by
  intro k
  induction k with
  | zero =>
    intro N l g l0 lk va hg
    exact ⟨g, by rw [gX9_lacks_h96, if_pos (by omega), q_pn (by omega), hn, if_neg (by omega)], fun c x y => by rw [q_ld]; omega⟩
  | succ k ih =>
    intro N l g l0 lk va hg
    show ∃ g', gX9_lacks_h96 K ((N + k + 1) + 1) (q_put A 138 g) s h W L x (q_en m (k + 1) l a) l = _ ∧ _
    have v := va l (by omega) (by omega)
    have va2 : q_va m k (l + 1) a := fun j x y => va j (by omega) (by omega)
    have eb := q_enB (k + 1) l a va
    have eb2 := q_enB k (l + 1) a va2
    have pw : ∀ m k : Nat, m ≤ 4 → k ≤ 8 → m ^ k ≤ 65536 := by
      have : ∀ m : Fin 5, ∀ k : Fin 9, m.val ^ k.val ≤ 65536 := by decide +kernel
      exact fun m k a b => this ⟨m, by omega⟩ ⟨k, by omega⟩
    have p1 := pw m (k + 1) hm4 (by omega)
    have p2 := pw m k hm4 (by omega)
    have t1 : Int.tmod (q_en m (k + 1) l a) m = a l := by
      rw [Int.tmod_eq_emod_of_nonneg eb.1, q_en, Int.add_mul_emod_self_left, Int.emod_eq_of_lt v.1 v.2]
    have t2 : Int.tdiv (q_en m (k + 1) l a) m = q_en m k (l + 1) a := by
      rw [Int.tdiv_eq_ediv_of_nonneg eb.1, q_en, Int.add_mul_ediv_left _ _ (by omega), Int.ediv_eq_zero_of_lt v.1 v.2, Int.zero_add]
    have wl := hw l l0 (by omega)
    have gl := hg (a l) v.1 (by omega)
    obtain ⟨g', e1, e2⟩ := ih N (l + 1) (q_up g (a l) (g (a l) + w l)) (by omega) (by omega) va2 (fun c x y => by
      have := hg c x y
      unfold q_up; split <;> omega)
    refine ⟨g', ?_, fun c x y => ?_⟩
    · rw [gX9_lacks_h96, if_pos (by omega), q_pn (by omega), hn, if_pos (by omega), if_pos (by omega), q_pn (by omega), hm, if_pos (by omega), t1, k_wr_of (x := a l) (by omega) (by omega), if_pos (by omega), k_wr_of (x := 8 * s) (by omega) (by omega), k_wr_of (x := 8 * s + l) (by omega) (by omega), if_pos (by omega), p_lt, q_pw, q_pe, q_pn (by omega), q_pn (by omega), hm, if_pos (by omega), t2, wl.1, k_wr_of (x := q_en m k (l + 1) a) (by omega) (by omega), k_wr_of (x := l + 1) (by omega) (by omega), k_wr_of (x := g (a l) + w l) (by omega) (by omega)]
      exact e1
    · rw [e2 c x y, q_ld]
      unfold q_up
      by_cases z : c = a l
      · rw [if_pos z, if_pos z.symm, z]; omega
      · rw [if_neg z, if_neg (fun y => z y.symm)]; omega
theorem m_way (K : k_H → Int → Int → Int → Int → Int → Option (Int × k_H)) (hs : 0 ≤ s ∧ s < 6) (hh : 0 ≤ h ∧ h < 12) (hn : k_rd A 130 s = n) (hn8 : 0 ≤ n ∧ n ≤ 8) (hm : k_rd A 126 h = m) (hm0 : 0 < m) (hm4 : m ≤ 4) (hP : ∀ c : Int, 0 ≤ c → c < m → k_rd A 127 (4 * h + c) = P c ∧ 0 ≤ P c ∧ P c ≤ 255) (hw : ∀ j : Int, 0 ≤ j → j < n → k_rd A 131 (8 * s + j) = w j ∧ 0 ≤ w j ∧ w j ≤ 255) {W L : Int} {a : Int → Int} (va : q_va m n.toNat 0 a) (g : Int → Int) : ∃ g', gX9_lacks_h69 K k_FU (q_put A 138 g) s h W L (q_en m n.toNat 0 a) 0 = K (q_put A 138 g') s h W (if L < 0 ∨ q_cost w n.toNat 0 P a < L then q_cost w n.toNat 0 P a else L) (k_wr (q_en m n.toNat 0 a + 1)) := by
  obtain ⟨N, hN⟩ := p_FU 5 (by decide)
  have z4 : gX9_lacks_h69 K k_FU (q_put A 138 g) s h W L (q_en m n.toNat 0 a) 0 = gX9_lacks_h96 K k_FU (q_put A 138 (q_up (q_up (q_up (q_up g 0 0) 1 0) 2 0) 3 0)) s h W L (q_en m n.toNat 0 a) (q_en m n.toNat 0 a) 0 := by
    have s1 : ∀ (N : Nat) (g : Int → Int) (c : Int), 0 ≤ c → c < 4 → gX9_lacks_h69 K (N + 1) (q_put A 138 g) s h W L (q_en m n.toNat 0 a) c = gX9_lacks_h69 K N (q_put A 138 (q_up g c 0)) s h W L (q_en m n.toNat 0 a) (c + 1) := by
      intro N g c c0 c1
      rw [gX9_lacks_h69, if_pos c1, if_pos (by omega), p_lt, q_pw, k_wr_of (x := c + 1) (by omega) (by omega)]
    have e0 : gX9_lacks_h69 K k_FU (q_put A 138 g) s h W L (q_en m n.toNat 0 a) 0 = gX9_lacks_h69 K (N + 5) (q_put A 138 g) s h W L (q_en m n.toNat 0 a) 0 := by rw [hN]
    rw [e0, s1 (N + 4) g 0 (by omega) (by omega), s1 (N + 3) _ (0 + 1) (by omega) (by omega), s1 (N + 2) _ (0 + 1 + 1) (by omega) (by omega), s1 (N + 1) _ (0 + 1 + 1 + 1) (by omega) (by omega), gX9_lacks_h69, if_neg (by omega)]
    rfl
  have gz : ∀ c : Int, 0 ≤ c → c < 4 → q_up (q_up (q_up (q_up g 0 0) 1 0) 2 0) 3 0 c = 0 := by
    intro c c0 c1
    unfold q_up
    split
    · rfl
    · split
      · rfl
      · split
        · rfl
        · rw [if_pos (by omega)]
  obtain ⟨N2, hN2⟩ := p_FU (n.toNat + 1) (by have : k_FU = 1073741824 := rfl; omega)
  obtain ⟨g', e1, e2⟩ := m_dist K hs hh hn hn8.2 hm hm0 hm4 hw (W := W) (L := L) (x := q_en m n.toNat 0 a) (a := a) n.toNat N2 0 (q_up (q_up (q_up (q_up g 0 0) 1 0) 2 0) 3 0) (by omega) (by omega) va (fun c x y => by rw [gz c x y]; omega)
  have gv : ∀ c : Int, 0 ≤ c → c < 4 → g' c = q_ld w n.toNat 0 a c := fun c x y => by rw [e2 c x y, gz c x y]; omega
  refine ⟨g', ?_⟩
  have hN3 : k_FU = N2 + n.toNat + 1 := hN2
  rw [z4]
  have e3 : gX9_lacks_h96 K k_FU (q_put A 138 (q_up (q_up (q_up (q_up g 0 0) 1 0) 2 0) 3 0)) s h W L (q_en m n.toNat 0 a) (q_en m n.toNat 0 a) 0 = gX9_lacks_h159 K k_FU (q_put A 138 g') s h W L (q_en m n.toNat 0 a) 0 0 := by
    rw [← e1, ← hN3]
  rw [e3, m_tot K hh hm hm4 hP (fun c x y => by
    rw [gv c x y]
    have := q_ldB (w := w) n.toNat 0 a c (fun j x y => (hw j x (by omega)).2)
    omega)]
  have ec : p_sum (fun c => max 0 (g' c - P c)) m = q_cost w n.toNat 0 P a := by
    rw [q_costL n.toNat 0 P a va (fun c x y => (hP c x y).2.1) (fun j x y => (hw j x (by omega)).2)]
    refine p_sumE m (fun c x y => ?_)
    show max 0 (g' c - P c) = max 0 (q_ld w n.toNat 0 a c - P c)
    rw [gv c x (by omega)]
  rw [ec]
end
