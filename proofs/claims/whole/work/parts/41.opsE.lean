/-! rows filled from the tape -/
def tw_w (A : k_H) (a o : Int) (f : Int → Int) : Nat → k_H
  | 0 => A
  | n + 1 => k_wt (tw_w A a o f n) a (o + n) (f n)
theorem tw_r (A : k_H) (a o : Int) (f : Int → Int) (n : Nat) (b j : Int) : k_rd (tw_w A a o f n) b j = if b = a ∧ o ≤ j ∧ j < o + n then f (j - o) else k_rd A b j := by
  induction n with
  | zero => rw [if_neg (by omega)]; rfl
  | succ n ih =>
    show k_rd (k_wt (tw_w A a o f n) a (o + n) (f n)) b j = _
    rw [p_rw, ih]
    by_cases h : b = a ∧ j = o + n
    · rw [if_pos h, if_pos (by omega), h.2]
      congr 1; omega
    · rw [if_neg h]
      by_cases k : b = a ∧ o ≤ j ∧ j < o + n
      · rw [if_pos k, if_pos (by omega)]
      · rw [if_neg k, if_neg (by omega)]
theorem tw_n {A : k_H} {a o : Int} {f : Int → Int} {n : Nat} {b j : Int} (h : b ≠ a ∨ j < o ∨ o + n ≤ j) : k_rd (tw_w A a o f n) b j = k_rd A b j := by
  rw [tw_r, if_neg (by omega)]
theorem t_shpH : ∀ h : Int, 0 ≤ h → h < 12 → k_shp (24 + 4 * h + 1 + 1) = (21, 4) := by
  intro h h0 h1
  obtain ⟨n, rfl⟩ : ∃ n : Nat, h = n := ⟨h.toNat, by omega⟩
  have : ∀ n : Nat, n < 12 → k_shp (24 + 4 * (n : Int) + 1 + 1) = (21, 4) := by decide +kernel
  exact this n (by omega)
theorem t_shpS : ∀ h : Int, 0 ≤ h → h < 6 → k_shp (72 + 8 * h + 1 + 1) = (21, 8) := by
  intro h h0 h1
  obtain ⟨n, rfl⟩ : ∃ n : Nat, h = n := ⟨h.toNat, by omega⟩
  have : ∀ n : Nat, n < 6 → k_shp (72 + 8 * (n : Int) + 1 + 1) = (21, 8) := by decide +kernel
  exact this n (by omega)
theorem c_byteAt {A : k_H} {v i : Int} (h0 : 0 ≤ i) (h1 : i < k_rd A v 1) (h2 : i < 200) : gX5_byteAt A v i = some (k_rd A (v + 1) i, A) := by
  unfold gX5_byteAt gX5_byteAt_b0
  rw [if_pos h0, if_pos h1, if_pos (by omega)]
theorem c_take {A : k_H} {v L : Int} {cap : Nat} (hcap : k_shp (v + 1) = (21, cap)) (hv : 24 ≤ v) (hL : k_rd A 1 1 = L) (h0 : 0 ≤ L ∧ L ≤ cap) (hc : cap ≤ 200) : gX0_take A v 1 = some (0, tw_w (k_wt A v 1 L) (v + 1) 0 (k_rd A 2) L.toNat) := by
  unfold gX0_take gX0_take_b0
  have hcap2 : (k_shp (v + 1)).2 = cap := by rw [hcap]
  rw [p_lt, hcap2, hL, show min L (cap : Int) = L by omega]
  obtain ⟨N, hN⟩ := p_FU (L.toNat + 1) (by have : k_FU = 1073741824 := rfl; omega)
  have e : N + (L.toNat + 1) = (N + 1) + L.toNat := by omega
  have st := p_it (fun N (p : k_H × Int) => gX0_take_h18 N p.1 v 1 p.2) (fun k => (tw_w (k_wt A v 1 L) (v + 1) 0 (k_rd A 2) k, (k : Int))) L.toNat (fun N k hk => by
    show gX0_take_h18 (N + 1) (tw_w (k_wt A v 1 L) (v + 1) 0 (k_rd A 2) k) v 1 k = gX0_take_h18 N (k_wt (tw_w (k_wt A v 1 L) (v + 1) 0 (k_rd A 2) k) (v + 1) (0 + k) (k_rd A 2 k)) v 1 ((k + 1 : Nat) : Int)
    rw [gX0_take_h18, tw_n (by omega), p_rwe, if_pos (by omega), c_byteAt (by omega) (by rw [tw_n (by omega), p_rwn (by omega)]; omega) (by omega), k_bds, hcap2, if_pos (by omega), p_lt, show (1 : Int) + 1 = 2 from rfl, tw_n (b := 2) (by omega), p_rwn (b := 2) (by omega), k_wr_of (by omega) (by omega), Int.zero_add]
    rfl) (N + 1)
  rw [hN, e]
  refine st.trans ?_
  show gX0_take_h18 (N + 1) (tw_w (k_wt A v 1 L) (v + 1) 0 (k_rd A 2) L.toNat) v 1 (L.toNat : Int) = _
  rw [gX0_take_h18, tw_n (by omega), p_rwe, if_neg (by omega)]
def b_c (A : k_H) (h hi wi L : Int) : k_H := tw_w (k_wt (k_wt (k_wt A (24 + 4 * h) 4 hi) (24 + 4 * h) 5 wi) (24 + 4 * h + 1) 1 L) (24 + 4 * h + 1 + 1) 0 (k_rd (k_wt (k_wt A (24 + 4 * h) 4 hi) (24 + 4 * h) 5 wi) 2) L.toNat
theorem c_build {A : k_H} {h hi wi L : Int} (hh : 0 ≤ h ∧ h < 12) (hL : k_rd A 1 1 = L) (h0 : 0 ≤ L ∧ L ≤ 4) : gX1_build A (24 + 4 * h) hi wi 1 = some (0, b_c A h hi wi L) := by
  unfold gX1_build gX1_build_b0
  rw [p_lt, p_lt, c_take (L := L) (t_shpH h hh.1 hh.2) (by omega) (by rw [p_rwn (by omega), p_rwn (by omega)]; exact hL) (by omega) (by omega), k_bds]
  rfl
def b_m (A : k_H) (h hi wi L : Int) : k_H := tw_w (k_wt (k_wt (k_wt A 124 h hi) 125 h wi) 126 h L) 127 (4 * h) (fun i => k_rd A 121 i % 256) L.toNat
theorem m_wire {A : k_H} {h hi wi L : Int} (hh : 0 ≤ h ∧ h < 12) (hL : k_rd A 120 3 = L) (h0 : 0 ≤ L ∧ L ≤ 4) : gX9_wire A h hi wi = some (0, b_m A h hi wi L) := by
  unfold gX9_wire gX9_wire_b0
  simp only [p_lt]
  rw [if_pos (by omega), if_pos (by omega), if_pos (by omega), p_rwn (by omega), p_rwn (by omega), hL]
  obtain ⟨N, hN⟩ := p_FU (L.toNat + 1) (by have : k_FU = 1073741824 := rfl; omega)
  have e : N + (L.toNat + 1) = (N + 1) + L.toNat := by omega
  have st := p_it (fun N (p : k_H × Int) => gX9_wire_h27 N p.1 h p.2) (fun k => (tw_w (k_wt (k_wt (k_wt A 124 h hi) 125 h wi) 126 h L) 127 (4 * h) (fun i => k_rd A 121 i % 256) k, (k : Int))) L.toNat (fun N k hk => by
    show gX9_wire_h27 (N + 1) (tw_w (k_wt (k_wt (k_wt A 124 h hi) 125 h wi) 126 h L) 127 (4 * h) (fun i => k_rd A 121 i % 256) k) h k = gX9_wire_h27 N (k_wt (tw_w (k_wt (k_wt (k_wt A 124 h hi) 125 h wi) 126 h L) 127 (4 * h) (fun i => k_rd A 121 i % 256) k) 127 (4 * h + k) (k_rd A 121 k % 256)) h ((k + 1 : Nat) : Int)
    rw [gX9_wire_h27, tw_n (b := 120) (by omega), p_rwn (b := 120) (by omega), p_rwn (b := 120) (by omega), p_rwn (b := 120) (by omega), hL, if_pos (by omega), if_pos (by omega), k_wr_of (x := 4 * h) (by omega) (by omega), k_wr_of (x := 4 * h + k) (by omega) (by omega), if_pos (by omega), p_lt, p_and255, tw_n (b := 121) (by omega), p_rwn (b := 121) (by omega), p_rwn (b := 121) (by omega), p_rwn (b := 121) (by omega), k_wr_of (x := (k : Int) + 1) (by omega) (by omega)]
    rfl) (N + 1)
  rw [hN, e]
  refine st.trans ?_
  show gX9_wire_h27 (N + 1) (tw_w (k_wt (k_wt (k_wt A 124 h hi) 125 h wi) 126 h L) 127 (4 * h) (fun i => k_rd A 121 i % 256) L.toNat) h (L.toNat : Int) = _
  rw [gX9_wire_h27, tw_n (by omega), p_rwn (by omega), p_rwn (by omega), p_rwn (by omega), hL, if_neg (by omega)]
  rfl
/-! the tape holds amps -/
theorem c_amps1 {A : k_H} {L : Int} (hL : k_rd A 1 1 = L) (h1 : L ≤ 200) : ∀ (m N : Nat) (i : Int), 0 ≤ i → i + m = L → (∀ j : Int, i ≤ j → j < L → k_rd A 2 j ≠ 0) → gX5_holdsAmps_h20 (N + m + 1) A 1 i = some (1, A) := by
  intro m
  induction m with
  | zero => intro N i i0 h _; rw [gX5_holdsAmps_h20, if_neg (by omega)]
  | succ m ih =>
    intro N i i0 h hz
    rw [gX5_holdsAmps_h20, if_pos (by omega), if_pos (by omega), show (1 : Int) + 1 = 2 from rfl, if_neg (hz i (by omega) (by omega)), k_wr_of (by omega) (by omega)]
    exact ih N (i + 1) (by omega) (by omega) (fun j a b => hz j (by omega) b)
theorem c_amps0 {A : k_H} {L : Int} (hL : k_rd A 1 1 = L) (h1 : L ≤ 200) : ∀ (m N : Nat) (i : Int), 0 ≤ i → i + m = L → (∃ j : Int, i ≤ j ∧ j < L ∧ k_rd A 2 j = 0) → gX5_holdsAmps_h20 (N + m + 1) A 1 i = some (0, A) := by
  intro m
  induction m with
  | zero => intro N i i0 h hz; obtain ⟨j, a, b, _⟩ := hz; omega
  | succ m ih =>
    intro N i i0 h hz
    rw [gX5_holdsAmps_h20, if_pos (by omega), if_pos (by omega), show (1 : Int) + 1 = 2 from rfl]
    by_cases z : k_rd A 2 i = 0
    · rw [if_pos z]
    · rw [if_neg z, k_wr_of (by omega) (by omega)]
      refine ih N (i + 1) (by omega) (by omega) ?_
      obtain ⟨j, a, b, c⟩ := hz
      exact ⟨j, by rcases Int.lt_or_le i j with q | q
                   · omega
                   · exact absurd c (by rw [show j = i by omega]; exact z), b, c⟩
def t_ok (A : k_H) (lo hi L : Int) : Prop := lo ≤ L ∧ L ≤ hi ∧ ∀ j : Int, 0 ≤ j → j < L → k_rd A 2 j ≠ 0
theorem c_amps {A : k_H} {L lo hi : Int} (hL : k_rd A 1 1 = L) (h0 : 0 ≤ L) (h1 : L ≤ 200) : (t_ok A lo hi L → gX5_holdsAmps A 1 lo hi = some (1, A)) ∧ (¬ t_ok A lo hi L → gX5_holdsAmps A 1 lo hi = some (0, A)) := by
  obtain ⟨N, hN⟩ := p_FU (L.toNat + 1) (by have : k_FU = 1073741824 := rfl; omega)
  unfold gX5_holdsAmps gX5_holdsAmps_b0
  rw [hL, hN, ← Nat.add_assoc]
  constructor
  · intro h
    rw [if_pos h.1, if_neg (by have := h.2.1; omega)]
    exact c_amps1 hL h1 L.toNat N 0 (by omega) (by omega) h.2.2
  · intro h
    by_cases a : lo ≤ L
    · by_cases b : hi < L
      · rw [if_pos a, if_pos b]
      · rw [if_pos a, if_neg b]
        refine c_amps0 hL h1 L.toNat N 0 (by omega) (by omega) ?_
        exact Classical.byContradiction fun z => h ⟨a, by omega, fun j j0 j1 k => z ⟨j, j0, j1, k⟩⟩
    · rw [if_neg a]
theorem m_amps1 {A : k_H} {L : Int} (hL : k_rd A 120 3 = L) (h1 : L ≤ 200) : ∀ (m N : Nat) (i : Int), 0 ≤ i → i + m = L → (∀ j : Int, i ≤ j → j < L → k_rd A 121 j ≠ 0) → gX9_areAmps_h20 (N + m + 1) A i = some (1, A) := by
  intro m
  induction m with
  | zero => intro N i i0 h _; rw [gX9_areAmps_h20, if_neg (by omega)]
  | succ m ih =>
    intro N i i0 h hz
    rw [gX9_areAmps_h20, if_pos (by omega), if_pos (by omega), if_neg (hz i (by omega) (by omega)), k_wr_of (by omega) (by omega)]
    exact ih N (i + 1) (by omega) (by omega) (fun j a b => hz j (by omega) b)
theorem m_amps0 {A : k_H} {L : Int} (hL : k_rd A 120 3 = L) (h1 : L ≤ 200) : ∀ (m N : Nat) (i : Int), 0 ≤ i → i + m = L → (∃ j : Int, i ≤ j ∧ j < L ∧ k_rd A 121 j = 0) → gX9_areAmps_h20 (N + m + 1) A i = some (0, A) := by
  intro m
  induction m with
  | zero => intro N i i0 h hz; obtain ⟨j, a, b, _⟩ := hz; omega
  | succ m ih =>
    intro N i i0 h hz
    rw [gX9_areAmps_h20, if_pos (by omega), if_pos (by omega)]
    by_cases z : k_rd A 121 i = 0
    · rw [if_pos z]
    · rw [if_neg z, k_wr_of (by omega) (by omega)]
      refine ih N (i + 1) (by omega) (by omega) ?_
      obtain ⟨j, a, b, c⟩ := hz
      exact ⟨j, by rcases Int.lt_or_le i j with q | q
                   · omega
                   · exact absurd c (by rw [show j = i by omega]; exact z), b, c⟩
def t_okm (A : k_H) (lo hi L : Int) : Prop := lo ≤ L ∧ L ≤ hi ∧ ∀ j : Int, 0 ≤ j → j < L → k_rd A 121 j ≠ 0
theorem m_amps {A : k_H} {L lo hi : Int} (hL : k_rd A 120 3 = L) (h0 : 0 ≤ L) (h1 : L ≤ 200) : (t_okm A lo hi L → gX9_areAmps A lo hi = some (1, A)) ∧ (¬ t_okm A lo hi L → gX9_areAmps A lo hi = some (0, A)) := by
  obtain ⟨N, hN⟩ := p_FU (L.toNat + 1) (by have : k_FU = 1073741824 := rfl; omega)
  unfold gX9_areAmps gX9_areAmps_b0
  rw [hL, hN, ← Nat.add_assoc]
  constructor
  · intro h
    rw [if_pos h.1, if_neg (by have := h.2.1; omega)]
    exact m_amps1 hL h1 L.toNat N 0 (by omega) (by omega) h.2.2
  · intro h
    by_cases a : lo ≤ L
    · by_cases b : hi < L
      · rw [if_pos a, if_pos b]
      · rw [if_pos a, if_neg b]
        refine m_amps0 hL h1 L.toNat N 0 (by omega) (by omega) ?_
        exact Classical.byContradiction fun z => h ⟨a, by omega, fun j j0 j1 k => z ⟨j, j0, j1, k⟩⟩
    · rw [if_neg a]
/-! hall and rewire -/
theorem c_isHB {A : k_H} {L hi wi : Int} (hL : k_rd A 1 1 = L) (h0 : 0 ≤ L) (h1 : L ≤ 200) : ((0 ≤ hi ∧ hi ≤ 99) ∧ (0 ≤ wi ∧ wi ≤ 99) ∧ t_ok A 1 4 L → gX8_isHallBuild A hi wi = some (1, A)) ∧ (¬ ((0 ≤ hi ∧ hi ≤ 99) ∧ (0 ≤ wi ∧ wi ≤ 99) ∧ t_ok A 1 4 L) → gX8_isHallBuild A hi wi = some (0, A)) := by
  have q := c_amps (lo := 1) (hi := 4) hL h0 h1
  unfold gX8_isHallBuild gX8_isHallBuild_b0
  simp only [h_X8isSize, k_bds, p_b0]
  constructor
  · intro h
    rw [if_neg (not_not_intro h.1), if_neg (not_not_intro h.2.1), q.1 h.2.2, k_bds, if_neg (by decide)]
  · intro h
    by_cases a : 0 ≤ hi ∧ hi ≤ 99
    · by_cases b : 0 ≤ wi ∧ wi ≤ 99
      · rw [if_neg (not_not_intro a), if_neg (not_not_intro b), q.2 (fun c => h ⟨a, b, c⟩), k_bds, if_pos rfl]
      · rw [if_neg (not_not_intro a), if_pos b]
    · rw [if_pos a]
def k_tk (A : k_H) (L : Int) : k_H := k_wt (k_wt (k_wt (k_wt A 120 0 0) 120 3 L) 120 2 0) 120 4 0
theorem m_taken {A : k_H} {L : Int} (hL : k_rd A 120 2 = L) : gX9_taken (k_wt A 120 0 0) = some (0, k_tk A L) := by
  unfold gX9_taken gX9_taken_b0
  simp only [p_lt]
  rw [p_rwn (by omega), hL]
  rfl
theorem r_Tz {A B : k_H} (r : r_T A) (h1 : k_rd B 1 1 = 0) (h2 : k_rd B 120 2 = 0) (h3 : ∀ i, k_rd B 2 i = k_rd A 2 i) (h4 : ∀ i, k_rd B 121 i = k_rd A 121 i) : r_T B := by
  refine ⟨by rw [h1, h2], by omega, by omega, fun i i0 i1 => ?_⟩
  rw [h3, h4]
  exact r.2.2.2 i i0 i1
theorem t_okE {A B : k_H} {lo hi L : Int} (r : r_T A) (hL : L ≤ 200) (h4 : ∀ i, k_rd B 121 i = k_rd A 121 i) : t_okm B lo hi L ↔ t_ok A lo hi L := by
  unfold t_okm t_ok
  constructor
  · intro h
    refine ⟨h.1, h.2.1, fun j j0 j1 => ?_⟩
    have := h.2.2 j j0 j1
    rw [h4] at this
    exact fun z => this ((r.2.2.2 j j0 (by omega)).2.2 z)
  · intro h
    refine ⟨h.1, h.2.1, fun j j0 j1 => ?_⟩
    rw [h4]
    exact fun z => h.2.2 j j0 j1 ((r.2.2.2 j j0 (by omega)).2.1 z)
