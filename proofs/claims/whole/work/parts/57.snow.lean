/-! snow: where a hall stands on a night -/
def z_at (A : k_H) (h n s : Int) : Prop := (s = -1 ∧ ∀ t : Int, 0 ≤ t → t < k_rd A 120 21 → k_rd A (72 + 8 * t + 3) n ≠ h) ∨ (0 ≤ s ∧ s < k_rd A 120 21 ∧ k_rd A (72 + 8 * s + 3) n = h ∧ ∀ t : Int, 0 ≤ t → t < 6 → t ≠ s → k_rd A (72 + 8 * t + 3) n ≠ h)
theorem z_atE {A : k_H} (r : Rel A) {h n : Int} (hh : 0 ≤ h) (hn : 0 ≤ n ∧ n < 14) : ∃ s, z_at A h n s := by
  have hS := r.2.2.2.1.2.2.1
  by_cases q : ∃ s : Int, 0 ≤ s ∧ s < k_rd A 120 21 ∧ k_rd A (72 + 8 * s + 3) n = h
  · obtain ⟨s, a, b, c⟩ := q
    refine ⟨s, Or.inr ⟨a, b, c, fun t t0 t1 t2 e => ?_⟩⟩
    have := (r.2.2.2.2.1 s n a (by omega) hn.1 hn.2).2.2.2 t t0 t1 t2 (by omega)
    omega
  · exact ⟨-1, Or.inl ⟨rfl, fun t a b c => q ⟨t, a, b, c⟩⟩⟩
theorem c_at1 {A : k_H} {h n S : Int} (hS : k_rd A 0 7 = S) (hS6 : S ≤ 6) (hn : 0 ≤ n ∧ n < 14) {s : Int} (hs : s < S) (he : k_rd A (72 + 8 * s + 3) n = h) : ∀ (m N : Nat) (i : Int), 0 ≤ i → i + m = s → (∀ t : Int, i ≤ t → t < s → k_rd A (72 + 8 * t + 3) n ≠ h) → gX8_showAt_h2 (N + m + 1) A h n i = some (s, A) := by
  intro m
  induction m with
  | zero =>
    intro N i h0 h1 _
    have : i = s := by omega
    subst this
    rw [gX8_showAt_h2, if_pos (by omega), if_pos (by omega), if_pos (by omega), if_pos he]
  | succ m ih =>
    intro N i h0 h1 h2
    show gX8_showAt_h2 ((N + m + 1) + 1) A h n i = _
    rw [gX8_showAt_h2, if_pos (by omega), if_pos (by omega), if_pos (by omega), if_neg (h2 i (by omega) (by omega)), k_wr_of (x := i + 1) (by omega) (by omega)]
    exact ih N (i + 1) (by omega) (by omega) (fun t a b => h2 t (by omega) b)
theorem c_at0 {A : k_H} {h n S : Int} (hS : k_rd A 0 7 = S) (hS6 : S ≤ 6) (hn : 0 ≤ n ∧ n < 14) : ∀ (m N : Nat) (i : Int), 0 ≤ i → i + m = S → (∀ t : Int, i ≤ t → t < S → k_rd A (72 + 8 * t + 3) n ≠ h) → gX8_showAt_h2 (N + m + 1) A h n i = some (-1, A) := by
  intro m
  induction m with
  | zero => intro N i h0 h1 _; rw [gX8_showAt_h2, if_neg (by omega)]
  | succ m ih =>
    intro N i h0 h1 h2
    show gX8_showAt_h2 ((N + m + 1) + 1) A h n i = _
    rw [gX8_showAt_h2, if_pos (by omega), if_pos (by omega), if_pos (by omega), if_neg (h2 i (by omega) (by omega)), k_wr_of (x := i + 1) (by omega) (by omega)]
    exact ih N (i + 1) (by omega) (by omega) (fun t a b => h2 t (by omega) b)
theorem c_at {A : k_H} {h n s : Int} (eS : k_rd A 0 7 = k_rd A 120 21) (h0 : 0 ≤ k_rd A 120 21) (hS6 : k_rd A 120 21 ≤ 6) (hn : 0 ≤ n ∧ n < 14) (z : z_at A h n s) : gX8_showAt A h n = some (s, A) := by
  unfold gX8_showAt gX8_showAt_b0
  rcases z with ⟨e, q⟩ | ⟨a, b, c, d⟩
  · subst e
    obtain ⟨N, hN⟩ := p_FU ((k_rd A 120 21).toNat + 1) (by have : k_FU = 1073741824 := rfl; omega)
    rw [hN]
    exact c_at0 eS hS6 hn _ N 0 (by omega) (by omega) q
  · obtain ⟨N, hN⟩ := p_FU (s.toNat + 1) (by have : k_FU = 1073741824 := rfl; omega)
    rw [hN]
    exact c_at1 eS hS6 hn b c _ N 0 (by omega) (by omega) (fun t t0 t1 => d t t0 (by omega) (by omega))
theorem m_at {A : k_H} {h n s S : Int} (hS : k_rd A 120 21 = S) (h0 : 0 ≤ S) (hS6 : S ≤ 6) (hn : 0 ≤ n ∧ n < 14) (hs : -1 ≤ s) (z : ∀ t : Int, 0 ≤ t → t < S → (k_rd A 139 (14 * t + n) = h ↔ t = s)) : ∃ N, gX9_snow_h30 k_FU A h n (-1) 0 = gX9_snow_h30 (N + 1) A h n (if s < S then s else -1) S := by
  obtain ⟨N, hN⟩ := p_FU (S.toNat + 1) (by have : k_FU = 1073741824 := rfl; omega)
  refine ⟨N, ?_⟩
  have e : N + (S.toNat + 1) = (N + 1) + S.toNat := by omega
  have st := p_it (fun N (p : Int × Int) => gX9_snow_h30 N A h n p.1 p.2) (fun k => (if s < (k : Int) then s else -1, (k : Int))) S.toNat (fun N k hk => by
    show gX9_snow_h30 (N + 1) A h n (if s < (k : Int) then s else -1) k = gX9_snow_h30 N A h n (if s < ((k + 1 : Nat) : Int) then s else -1) ((k + 1 : Nat) : Int)
    rw [gX9_snow_h30, if_pos (by omega), k_wr_of (x := 14 * (k : Int)) (by omega) (by omega), k_wr_of (x := 14 * (k : Int) + n) (by omega) (by omega), if_pos (by omega)]
    simp only [gX9_snow_b58]
    rw [k_wr_of (x := (k : Int) + 1) (by omega) (by omega)]
    have q := z k (by omega) (by omega)
    by_cases w : k_rd A 139 (14 * (k : Int) + n) = h
    · have := q.1 w
      rw [if_pos w, if_pos (by omega)]
      have : s = k := by omega
      subst this; rfl
    · rw [if_neg w]
      have : ¬ (k : Int) = s := fun y => w (q.2 y)
      by_cases y : s < (k : Int)
      · rw [if_pos y, if_pos (by omega)]; rfl
      · rw [if_neg y, if_neg (by omega)]; rfl) (N + 1)
  rw [hN, e]
  have e2 : (if s < ((0 : Nat) : Int) then s else -1) = -1 := by split <;> omega
  have e3 : ((S.toNat : Nat) : Int) = S := by omega
  have st2 : gX9_snow_h30 (N + 1 + S.toNat) A h n (if s < ((0 : Nat) : Int) then s else -1) ((0 : Nat) : Int) = gX9_snow_h30 (N + 1) A h n (if s < ((S.toNat : Nat) : Int) then s else -1) ((S.toNat : Nat) : Int) := st
  rw [e2, e3] at st2
  exact st2
/-! snow: the night to which it moves -/
def z_first (G : Int → Int) : Nat → Int → Int
  | 0, _ => -2
  | m + 1, n => if G n = 0 then z_first G m (n + 1) else n
theorem z_firstB {G : Int → Int} : ∀ (m : Nat) (n : Int), z_first G m n = -2 ∨ (n ≤ z_first G m n ∧ z_first G m n < n + m ∧ G (z_first G m n) ≠ 0) := by
  intro m
  induction m with
  | zero => intro n; exact Or.inl rfl
  | succ m ih =>
    intro n
    rw [z_first]
    by_cases q : G n = 0
    · rw [if_pos q]
      rcases ih (n + 1) with h | h
      · exact Or.inl h
      · exact Or.inr ⟨by omega, by omega, h.2.2⟩
    · rw [if_neg q]; exact Or.inr ⟨by omega, by omega, q⟩
def z_put (A : k_H) (a o r h : Int) : k_H := if r = -2 then A else k_wt A a (o + r) h
theorem c_snowL {A : k_H} {h s to : Int} {G : Int → Int} (hs : 0 ≤ s ∧ s < 6) (ht : k_rd A (72 + 8 * s) 7 = to) (ht13 : to ≤ 13) : ∀ (m N : Nat) (n : Int), 0 ≤ n → (n + m = to + 1 ∨ (m = 0 ∧ to < n)) → (∀ k : Int, n ≤ k → k ≤ to → gX8_canMove A (72 + 8 * s) h k = some (G k, A)) → gX8_snow_h63 (N + m + 1) A h s n = some (z_first G m n, z_put A (72 + 8 * s + 3) 0 (z_first G m n) h) := by
  intro m
  induction m with
  | zero =>
    intro N n h0 h1 _
    rw [gX8_snow_h63, if_pos (by omega), ht, if_neg (by omega)]; rfl
  | succ m ih =>
    intro N n h0 h1 h2
    show gX8_snow_h63 ((N + m + 1) + 1) A h s n = _
    rw [gX8_snow_h63, if_pos (by omega), ht, if_pos (by omega), h2 n (by omega) (by omega), k_bds, z_first]
    by_cases q : G n = 0
    · rw [if_pos q, if_pos q, k_wr_of (x := n + 1) (by omega) (by omega)]
      exact ih N (n + 1) (by omega) (by omega) (fun k a b => h2 k (by omega) b)
    · rw [if_neg q, if_neg q, if_pos (by omega), p_lt]
      unfold z_put
      rw [if_neg (by omega), Int.zero_add]
theorem m_snowL {A : k_H} {h s to : Int} {G : Int → Int} (hs : 0 ≤ s ∧ s < 6) (ht : k_rd A 133 s = to) (ht13 : to ≤ 13) : ∀ (m N : Nat) (n : Int), 0 ≤ n → (n + m = to + 1 ∨ (m = 0 ∧ to < n)) → (∀ k : Int, n ≤ k → k ≤ to → (0 ≤ k_rd A 139 (14 * s + k) → G k = 0) ∧ -1 ≤ k_rd A 139 (14 * s + k) ∧ (k_rd A 139 (14 * s + k) < 0 → gX9_isLawful (k_wt A 139 (14 * s + k) h) s = some (G k, k_wt A 139 (14 * s + k) h))) → gX9_snow_h99 (N + m + 1) A h s n = some (z_first G m n, z_put A 139 (14 * s) (z_first G m n) h) := by
  intro m
  induction m with
  | zero =>
    intro N n h0 h1 _
    rw [gX9_snow_h99, if_pos (by omega), ht, if_neg (by omega)]; rfl
  | succ m ih =>
    intro N n h0 h1 h2
    show gX9_snow_h99 ((N + m + 1) + 1) A h s n = _
    have g := h2 n (by omega) (by omega)
    have nx := ih N (n + 1) (by omega) (by omega) (fun k a b => h2 k (by omega) b)
    rw [gX9_snow_h99, if_pos (by omega), ht, if_pos (by omega), k_wr_of (x := 14 * s) (by omega) (by omega), k_wr_of (x := 14 * s + n) (by omega) (by omega), if_pos (by omega), z_first]
    simp only [gX9_snow_b165, p_lt]
    rw [k_wr_of (x := n + 1) (by omega) (by omega)]
    by_cases w : 0 ≤ k_rd A 139 (14 * s + n)
    · rw [if_pos w, if_pos (g.1 w), nx]
    · rw [if_neg w, g.2.2 (by omega), k_bds]
      by_cases q : G n = 0
      · rw [if_pos q, if_pos q, p_wtb (by omega), nx]
      · rw [if_neg q, if_neg q]
        unfold z_put
        rw [if_neg (by omega)]
