/-! snow: pieces -/
theorem p_wtb {A : k_H} {a i v w : Int} (h : k_rd A a i = w) : k_wt (k_wt A a i v) a i w = A := by
  subst h
  obtain ⟨x, y, z⟩ := A
  show (x, y, fun b j => if b = a ∧ j = i then z a i else if b = a ∧ j = i then v else z b j) = (x, y, z)
  have : (fun b j => if b = a ∧ j = i then z a i else if b = a ∧ j = i then v else z b j) = z := by
    funext b j
    by_cases q : b = a ∧ j = i
    · rw [if_pos q, q.1, q.2]
    · rw [if_neg q, if_neg q]
  rw [this]
def z_d (X Y : Int → Int) (g h : Int) : Int := max (X g - X h) (X h - X g) + max (Y g - Y h) (Y h - Y g)
def z_B (X : Int → Int) : Prop := ∀ h : Int, 0 ≤ h → h < 12 → 0 ≤ X h ∧ X h ≤ 99
theorem c_miles {A : k_H} {X Y : Int → Int} {g h : Int} (hX : ∀ h : Int, 0 ≤ h → h < 12 → k_rd A (24 + 4 * h) 2 = X h) (hY : ∀ h : Int, 0 ≤ h → h < 12 → k_rd A (24 + 4 * h) 3 = Y h) (bX : z_B X) (bY : z_B Y) (hg : 0 ≤ g ∧ g < 12) (hh : 0 ≤ h ∧ h < 12) : gX1_milesTo A (24 + 4 * g) (24 + 4 * h) = some (z_d X Y g h, A) := by
  have x1 := bX g hg.1 hg.2
  have x2 := bX h hh.1 hh.2
  have y1 := bY g hg.1 hg.2
  have y2 := bY h hh.1 hh.2
  unfold gX1_milesTo gX1_milesTo_b0 z_d
  rw [hX g hg.1 hg.2, hX h hh.1 hh.2, hY g hg.1 hg.2, hY h hh.1 hh.2]
  generalize X g = a at *
  generalize X h = b at *
  generalize Y g = c at *
  generalize Y h = d at *
  rw [k_wr_of (x := a - b) (by omega) (by omega), k_wr_of (x := c - d) (by omega) (by omega), k_wr_of (x := -(a - b)) (by omega) (by omega), k_wr_of (x := -(c - d)) (by omega) (by omega)]
  have e : ((if 0 ≤ a - b then a - b else -(a - b)) + (if 0 ≤ c - d then c - d else -(c - d))) = max (a - b) (b - a) + max (c - d) (d - c) := by
    split <;> split <;> omega
  rw [e, k_wr_of (by omega) (by omega)]
theorem m_miles {A : k_H} {X Y : Int → Int} {g h : Int} (hX : ∀ h : Int, 0 ≤ h → h < 12 → k_rd A 122 h = X h) (hY : ∀ h : Int, 0 ≤ h → h < 12 → k_rd A 123 h = Y h) (bX : z_B X) (bY : z_B Y) (hg : 0 ≤ g ∧ g < 12) (hh : 0 ≤ h ∧ h < 12) : gX9_milesOf A g h = some (z_d X Y g h, A) := by
  have x1 := bX g hg.1 hg.2
  have x2 := bX h hh.1 hh.2
  have y1 := bY g hg.1 hg.2
  have y2 := bY h hh.1 hh.2
  simp only [gX9_milesOf, gX9_milesOf_b0, gX9_milesOf_b39, gX9_milesOf_b52, z_d]
  rw [if_pos (by omega), if_pos (by omega), if_pos (by omega), if_pos (by omega)]
  rw [hX g hg.1 hg.2, hX h hh.1 hh.2, hY g hg.1 hg.2, hY h hh.1 hh.2]
  generalize X g = a at *
  generalize X h = b at *
  generalize Y g = c at *
  generalize Y h = d at *
  rw [k_wr_of (x := a - b) (by omega) (by omega), k_wr_of (x := c - d) (by omega) (by omega), k_wr_of (x := -(a - b)) (by omega) (by omega), k_wr_of (x := -(c - d)) (by omega) (by omega)]
  have e : ∀ x y : Int, -99 ≤ x ∧ x ≤ 99 → -99 ≤ y ∧ y ≤ 99 → x + y = max (a - b) (b - a) + max (c - d) (d - c) → some (k_wr (x + y), A) = some (max (a - b) (b - a) + max (c - d) (d - c), A) := by
    intro x y hx hy q
    rw [k_wr_of (by omega) (by omega), q]
  split <;> split <;> exact e _ _ (by omega) (by omega) (by omega)
def z_law (T X Y F : Int → Int) (mi ro : Int) : Nat → Int → Int → Int → Int
  | 0, _, _, _ => 1
  | k + 1, n, la, ru => if T n < 0 then z_law T X Y F mi ro k (n + 1) la 0 else if ro < ru + 1 then 0 else if F n = 0 then 0 else if 0 ≤ la ∧ mi * (n - la) < z_d X Y (T la) (T n) then 0 else z_law T X Y F mi ro k (n + 1) n (ru + 1)
theorem z_law01 {T X Y F : Int → Int} {mi ro : Int} : ∀ (k : Nat) (n la ru : Int), z_law T X Y F mi ro k n la ru = 0 ∨ z_law T X Y F mi ro k n la ru = 1 := by
  intro k
  induction k with
  | zero => intro n la ru; exact Or.inr rfl
  | succ k ih =>
    intro n la ru
    rw [z_law]
    split
    · exact ih _ _ _
    · split
      · exact Or.inl rfl
      · split
        · exact Or.inl rfl
        · split
          · exact Or.inl rfl
          · exact ih _ _ _
theorem z_lawF {T X Y F G : Int → Int} {mi ro : Int} : ∀ (k : Nat) (n la ru : Int), (∀ j : Int, n ≤ j → j < n + k → 0 ≤ T j → (F j = 0 ↔ G j = 0)) → z_law T X Y F mi ro k n la ru = z_law T X Y G mi ro k n la ru := by
  intro k
  induction k with
  | zero => intro n la ru _; rfl
  | succ k ih =>
    intro n la ru h
    rw [z_law, z_law]
    by_cases q : T n < 0
    · rw [if_pos q, if_pos q]; exact ih _ _ _ (fun j a b => h j (by omega) (by omega))
    · rw [if_neg q, if_neg q]
      have e := h n (by omega) (by omega) (by omega)
      by_cases q2 : F n = 0
      · rw [if_pos q2, if_pos (e.1 q2)]
      · rw [if_neg q2, if_neg (fun w => q2 (e.2 w)), ih _ _ _ (fun j a b => h j (by omega) (by omega))]
theorem z_law0 {T X Y F : Int → Int} {mi ro : Int} : ∀ (k : Nat) (n la ru : Int), (∃ j : Int, n ≤ j ∧ j < n + k ∧ 0 ≤ T j ∧ F j = 0) → z_law T X Y F mi ro k n la ru = 0 := by
  intro k
  induction k with
  | zero => intro n la ru ⟨j, a, b, _⟩; exfalso; omega
  | succ k ih =>
    intro n la ru ⟨j, a, b, c, d⟩
    rw [z_law]
    by_cases e : j = n
    · subst e
      rw [if_neg (by omega), if_pos d]; split <;> rfl
    · have : ∀ la ru, z_law T X Y F mi ro k (n + 1) la ru = 0 := fun la ru => ih _ _ _ ⟨j, by omega, by omega, c, d⟩
      rw [this, this]
      split
      · rfl
      · split
        · rfl
        · split
          · rfl
          · split <;> rfl
theorem c_law {A : k_H} {s mi ro : Int} {T X Y : Int → Int} (hs : 0 ≤ s ∧ s < 6) (hT : ∀ n : Int, 0 ≤ n → n < 14 → k_rd A (72 + 8 * s + 3) n = T n ∧ -1 ≤ T n ∧ T n < k_rd A 0 6) (hH : k_rd A 0 6 ≤ 12) (hX : ∀ h : Int, 0 ≤ h → h < 12 → k_rd A (24 + 4 * h) 2 = X h) (hY : ∀ h : Int, 0 ≤ h → h < 12 → k_rd A (24 + 4 * h) 3 = Y h) (bX : z_B X) (bY : z_B Y) (hm : k_rd A (72 + 8 * s) 8 = mi) (hmi : 1 ≤ mi ∧ mi ≤ 200) (hr : k_rd A (72 + 8 * s) 9 = ro) : ∀ (m N : Nat) (n la ru : Int), 0 ≤ n → n + m = 14 → -1 ≤ la → la < n → (0 ≤ la → 0 ≤ T la) → 0 ≤ ru → ru ≤ n → gX8_keepsWaysAndRests_h10 (N + m + 1) A (72 + 8 * s) (if la < 0 then -1 else T la) la ru n = some (z_law T X Y (fun _ => 1) mi ro m n la ru, A) := by
  intro m
  induction m with
  | zero =>
    intro N n la ru h0 h1 h2 h3 h4 h5 h6
    rw [gX8_keepsWaysAndRests_h10, if_neg (by omega)]; rfl
  | succ m ih =>
    intro N n la ru h0 h1 h2 h3 h4 h5 h6
    show gX8_keepsWaysAndRests_h10 ((N + m + 1) + 1) A (72 + 8 * s) (if la < 0 then -1 else T la) la ru n = _
    have t := hT n h0 (by omega)
    rw [gX8_keepsWaysAndRests_h10, if_pos (by omega), if_pos (by omega), h_X8isHall, k_bds]
    simp only [p_b0, gX8_keepsWaysAndRests_b109, gX8_keepsWaysAndRests_b85, gX8_keepsWaysAndRests_b80, h_X8isHall, k_bds]
    rw [z_law, t.1]
    by_cases q : T n < 0
    · rw [if_pos (by omega), if_pos q, k_wr_of (x := n + 1) (by omega) (by omega)]
      exact ih N (n + 1) la 0 (by omega) (by omega) h2 (by omega) h4 (by omega) (by omega)
    · rw [if_neg (by omega), if_neg q, k_wr_of (x := ru + 1) (by omega) (by omega), hr]
      have nx := ih N (n + 1) n (ru + 1) (by omega) (by omega) (by omega) (by omega) (fun _ => by omega) (by omega) (by omega)
      rw [if_neg (by omega : ¬ n < 0)] at nx
      rw [k_wr_of (x := n + 1) (by omega) (by omega)]
      by_cases l : la < 0
      · rw [if_pos l, if_pos (by omega)]
        by_cases u : ro < ru + 1
        · rw [if_neg (by omega), if_pos u]
        · rw [if_pos (by omega), if_neg u, if_neg (by omega), if_neg (by omega), if_neg (by omega), nx]
      · have t2 := hT la (by omega) (by omega)
        have l0 := h4 (by omega)
        rw [if_neg l, if_neg (by omega), if_pos (by omega), if_pos (by omega), c_miles hX hY bX bY (by omega) (by omega), k_bds]
        simp only [hm, hr]
        rw [k_wr_of (x := n - la) (by omega) (by omega)]
        have b1 : 0 ≤ mi * (n - la) := Int.mul_nonneg (by omega) (by omega)
        have b2 : mi * (n - la) ≤ 200 * 14 := Int.mul_le_mul (by omega) (by omega) (by omega) (by omega)
        rw [k_wr_of (x := mi * (n - la)) (by omega) (by omega)]
        by_cases u : ro < ru + 1
        · rw [if_neg (by omega : ¬ ru + 1 ≤ ro), if_neg (by omega : ¬ ru + 1 ≤ ro), if_pos u]; split <;> rfl
        · rw [if_pos (by omega : ru + 1 ≤ ro), if_pos (by omega : ru + 1 ≤ ro), if_neg u, if_neg (by omega : ¬ (1 : Int) = 0)]
          by_cases w : z_d X Y (T la) (T n) ≤ mi * (n - la)
          · rw [if_pos w, if_neg (by omega), if_neg (by omega), nx]
          · rw [if_neg w, if_pos trivial, if_neg (by omega), if_pos ⟨by omega, by omega⟩]
theorem m_law {A : k_H} {s mi ro : Int} {T X Y F : Int → Int} (hs : 0 ≤ s ∧ s < 6) (hT : ∀ n : Int, 0 ≤ n → n < 14 → k_rd A 139 (14 * s + n) = T n ∧ -1 ≤ T n ∧ T n < 12) (hX : ∀ h : Int, 0 ≤ h → h < 12 → k_rd A 122 h = X h) (hY : ∀ h : Int, 0 ≤ h → h < 12 → k_rd A 123 h = Y h) (bX : z_B X) (bY : z_B Y) (hm : k_rd A 134 s = mi) (hmi : 1 ≤ mi ∧ mi ≤ 200) (hr : k_rd A 135 s = ro) (hF : ∀ n : Int, 0 ≤ n → n < 14 → 0 ≤ T n → gX9_isFree A s (T n) n = some (F n, A)) : ∀ (m N : Nat) (n la ru : Int), 0 ≤ n → n + m = 14 → -1 ≤ la → la < n → (0 ≤ la → 0 ≤ T la) → 0 ≤ ru → ru ≤ n → gX9_isLawful_h7 (N + m + 1) A s la ru n = some (z_law T X Y F mi ro m n la ru, A) := by
  intro m
  induction m with
  | zero =>
    intro N n la ru h0 h1 h2 h3 h4 h5 h6
    rw [gX9_isLawful_h7, if_neg (by omega)]; rfl
  | succ m ih =>
    intro N n la ru h0 h1 h2 h3 h4 h5 h6
    show gX9_isLawful_h7 ((N + m + 1) + 1) A s la ru n = _
    have t := hT n h0 (by omega)
    rw [gX9_isLawful_h7, if_pos (by omega), k_wr_of (x := 14 * s) (by omega) (by omega), k_wr_of (x := 14 * s + n) (by omega) (by omega), if_pos (by omega), t.1]
    simp only [gX9_isLawful_b40, gX9_isLawful_b111, gX9_isLawful_b108]
    rw [z_law, k_wr_of (x := n + 1) (by omega) (by omega)]
    by_cases q : T n < 0
    · rw [if_pos q, if_pos q, if_pos q]
      exact ih N (n + 1) la 0 (by omega) (by omega) h2 (by omega) h4 (by omega) (by omega)
    · rw [if_neg q, if_neg q, if_neg q, if_pos (by omega), k_wr_of (x := ru + 1) (by omega) (by omega), hr, hF n h0 (by omega) (by omega), k_bds]
      have nx := ih N (n + 1) n (ru + 1) (by omega) (by omega) (by omega) (by omega) (fun _ => by omega) (by omega) (by omega)
      by_cases u : ro < ru + 1
      · rw [if_neg (by omega), if_pos u]
      · rw [if_pos (by omega), if_neg u]
        by_cases f : F n = 0
        · rw [if_pos f, if_pos f]
        · rw [if_neg f, if_neg f]
          by_cases l : la < 0
          · rw [if_neg (by omega), if_neg (by omega), nx]
          · have t2 := hT la (by omega) (by omega)
            have l0 := h4 (by omega)
            rw [if_pos (by omega), k_wr_of (x := 14 * s) (by omega) (by omega), k_wr_of (x := 14 * s + la) (by omega) (by omega), if_pos (by omega), t2.1, m_miles hX hY bX bY (by omega) (by omega), k_bds, if_pos (by omega)]
            simp only [hm]
            rw [k_wr_of (x := n - la) (by omega) (by omega)]
            have b1 : 0 ≤ mi * (n - la) := Int.mul_nonneg (by omega) (by omega)
            have b2 : mi * (n - la) ≤ 200 * 14 := Int.mul_le_mul (by omega) (by omega) (by omega) (by omega)
            rw [k_wr_of (x := mi * (n - la)) (by omega) (by omega)]
            by_cases w : mi * (n - la) < z_d X Y (T la) (T n)
            · rw [if_pos w, if_pos ⟨by omega, w⟩]
            · rw [if_neg w, if_neg (fun z => w z.2), nx]
theorem m_free1 {A : k_H} {s h n : Int} {S : Int} (hS : k_rd A 120 21 = S) (hS6 : S ≤ 6) (hn : 0 ≤ n ∧ n < 14) : ∀ (m N : Nat) (i : Int), 0 ≤ i → i + m = S → (∀ t : Int, i ≤ t → t < S → t ≠ s → k_rd A 139 (14 * t + n) ≠ h) → gX9_isFree_h3 (N + m + 1) A s h n i = some (1, A) := by
  intro m
  induction m with
  | zero => intro N i h0 h1 _; rw [gX9_isFree_h3, if_neg (by omega)]
  | succ m ih =>
    intro N i h0 h1 h2
    show gX9_isFree_h3 ((N + m + 1) + 1) A s h n i = _
    have nx := ih N (i + 1) (by omega) (by omega) (fun t a b => h2 t (by omega) b)
    rw [gX9_isFree_h3, if_pos (by omega)]
    simp only [gX9_isFree_b36]
    rw [k_wr_of (x := i + 1) (by omega) (by omega), nx]
    by_cases q : i = s
    · rw [if_pos q]
    · rw [if_neg q, k_wr_of (x := 14 * i) (by omega) (by omega), k_wr_of (x := 14 * i + n) (by omega) (by omega), if_pos (by omega), if_neg (h2 i (by omega) (by omega) q)]
theorem m_free0 {A : k_H} {s h n : Int} {S : Int} (hS : k_rd A 120 21 = S) (hS6 : S ≤ 6) (hn : 0 ≤ n ∧ n < 14) : ∀ (m N : Nat) (i : Int), 0 ≤ i → i + m = S → (∃ t : Int, i ≤ t ∧ t < S ∧ t ≠ s ∧ k_rd A 139 (14 * t + n) = h) → gX9_isFree_h3 (N + m + 1) A s h n i = some (0, A) := by
  intro m
  induction m with
  | zero => intro N i h0 h1 ⟨t, a, b, _⟩; exfalso; omega
  | succ m ih =>
    intro N i h0 h1 ⟨t, a, b, c, d⟩
    show gX9_isFree_h3 ((N + m + 1) + 1) A s h n i = _
    rw [gX9_isFree_h3, if_pos (by omega)]
    simp only [gX9_isFree_b36]
    rw [k_wr_of (x := i + 1) (by omega) (by omega), k_wr_of (x := 14 * i) (by omega) (by omega), k_wr_of (x := 14 * i + n) (by omega) (by omega)]
    by_cases e : t = i
    · subst e
      rw [if_neg c, if_pos (by omega), if_pos d]
    · rw [ih N (i + 1) (by omega) (by omega) ⟨t, by omega, b, c, d⟩]
      by_cases q : i = s
      · rw [if_pos q]
      · rw [if_neg q, if_pos (by omega)]
        split <;> rfl
theorem m_free {A : k_H} {s h n S : Int} (hS : k_rd A 120 21 = S) (h0 : 0 ≤ S) (hS6 : S ≤ 6) (hn : 0 ≤ n ∧ n < 14) : ((∀ t : Int, 0 ≤ t → t < S → t ≠ s → k_rd A 139 (14 * t + n) ≠ h) → gX9_isFree A s h n = some (1, A)) ∧ ((∃ t : Int, 0 ≤ t ∧ t < S ∧ t ≠ s ∧ k_rd A 139 (14 * t + n) = h) → gX9_isFree A s h n = some (0, A)) := by
  obtain ⟨N, hN⟩ := p_FU (S.toNat + 1) (by have : k_FU = 1073741824 := rfl; omega)
  unfold gX9_isFree gX9_isFree_b0
  rw [hN]
  exact ⟨fun q => m_free1 hS hS6 hn S.toNat N 0 (by omega) (by omega) q, fun q => m_free0 hS hS6 hn S.toNat N 0 (by omega) (by omega) q⟩
