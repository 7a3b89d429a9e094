/-! book, the class's side -/
theorem t_shpT : ∀ s : Int, 0 ≤ s → s < 6 → k_shp (72 + 8 * s + 3) = (21, 14) ∧ k_shp (72 + 8 * s + 4) = (21, 14) := by
  intro h h0 h1
  obtain ⟨n, rfl⟩ : ∃ n : Nat, h = n := ⟨h.toNat, by omega⟩
  have : ∀ n : Nat, n < 6 → k_shp (72 + 8 * (n : Int) + 3) = (21, 14) ∧ k_shp (72 + 8 * (n : Int) + 4) = (21, 14) := by decide +kernel
  exact this n (by omega)
theorem c_fill {A : k_H} {v x : Int} {m : Nat} (hv : k_shp v = (21, m)) (hm : m ≤ 1000) : gJ7_fill_53178 A v x = some (0, tw_w A v 0 (fun _ => x) m) := by
  have hv2 : (k_shp v).2 = m := by rw [hv]
  have st := p_it (fun N (p : k_H × Int) => gJ7_fill_53178_h5 N p.1 v x p.2 (m : Int)) (fun k => (tw_w A v 0 (fun _ => x) k, (k : Int))) m (fun N k hk => by
    show gJ7_fill_53178_h5 (N + 1) (tw_w A v 0 (fun _ => x) k) v x k (m : Int) = gJ7_fill_53178_h5 N (k_wt (tw_w A v 0 (fun _ => x) k) v (0 + k) x) v x ((k + 1 : Nat) : Int) (m : Int)
    rw [gJ7_fill_53178_h5, if_pos (by omega), hv2, if_pos (by omega), p_lt, k_wr_of (x := (k : Int) + 1) (by omega) (by omega), Int.zero_add]
    rfl)
  obtain ⟨N, hN⟩ := p_FU (m + 1) (by have : k_FU = 1073741824 := rfl; omega)
  have e : N + (m + 1) = (N + 1) + m := by omega
  unfold gJ7_fill_53178 gJ7_fill_53178_b0
  rw [hN, e, hv2]
  refine (st (N + 1)).trans ?_
  show gJ7_fill_53178_h5 (N + 1) (tw_w A v 0 (fun _ => x) m) v x m (m : Int) = _
  rw [gJ7_fill_53178_h5, if_neg (by omega)]
def a_0 (A : k_H) (s fr to mi ro : Int) : k_H := k_wt (k_wt (k_wt (k_wt (k_wt (tw_w (tw_w A (72 + 8 * s + 3) 0 (fun _ => -1) 14) (72 + 8 * s + 4) 0 (fun _ => -1) 14) 12 5 0) 12 6 fr) 12 7 to) 12 8 mi) 12 9 ro
theorem a_0n {A : k_H} {s fr to mi ro a i : Int} (h : a ≠ 12 ∧ (a ≠ 72 + 8 * s + 3 ∨ i < 0 ∨ 14 ≤ i) ∧ (a ≠ 72 + 8 * s + 4 ∨ i < 0 ∨ 14 ≤ i)) : k_rd (a_0 A s fr to mi ro) a i = k_rd A a i := by
  unfold a_0
  rw [p_rwn (by omega), p_rwn (by omega), p_rwn (by omega), p_rwn (by omega), p_rwn (by omega), tw_n (by omega), tw_n (by omega)]
theorem a_0t {A : k_H} {s fr to mi ro i : Int} (hs : 0 ≤ s) (h : 0 ≤ i ∧ i < 14) : k_rd (a_0 A s fr to mi ro) (72 + 8 * s + 3) i = -1 ∧ k_rd (a_0 A s fr to mi ro) (72 + 8 * s + 4) i = -1 := by
  unfold a_0
  constructor
  · rw [p_rwn (by omega), p_rwn (by omega), p_rwn (by omega), p_rwn (by omega), p_rwn (by omega), tw_n (by omega), tw_r, if_pos (by omega)]
  · rw [p_rwn (by omega), p_rwn (by omega), p_rwn (by omega), p_rwn (by omega), p_rwn (by omega), tw_r, if_pos (by omega)]
theorem a_0r {A : k_H} {s fr to mi ro : Int} : k_rd (a_0 A s fr to mi ro) 12 5 = 0 ∧ k_rd (a_0 A s fr to mi ro) 12 6 = fr ∧ k_rd (a_0 A s fr to mi ro) 12 7 = to ∧ k_rd (a_0 A s fr to mi ro) 12 8 = mi ∧ k_rd (a_0 A s fr to mi ro) 12 9 = ro := by
  unfold a_0
  refine ⟨?_, ?_, ?_, ?_, ?_⟩
  · rw [p_rwn (by omega), p_rwn (by omega), p_rwn (by omega), p_rwn (by omega), p_rwe]
  · rw [p_rwn (by omega), p_rwn (by omega), p_rwn (by omega), p_rwe]
  · rw [p_rwn (by omega), p_rwn (by omega), p_rwe]
  · rw [p_rwn (by omega), p_rwe]
  · rw [p_rwe]
def a_I (A B : k_H) (s S mi : Int) (X Y ok : Int → Int) (k : Nat) : Prop := k_rd B 12 5 = a_c ok k ∧ (∀ a i : Int, a < 5 ∨ 16 < a ∨ (a = 12 ∧ i ≠ 5) → k_rd B a i = k_rd A a i) ∧ (∀ i : Nat, i < a_c ok k → k_rd B 13 i = a_f ok k i ∧ k_rd B 14 i = k_rd A (24 + 4 * a_f ok k i + 3) s) ∧ (∀ i j : Nat, i < a_c ok k → j < a_c ok k → i ≠ j → k_rd B 15 ((i : Int) * 6 + j) = a_p X Y mi (a_f ok k i) (a_f ok k j)) ∧ (∀ i : Nat, i < a_c ok k → ∃ x : Nat, x < 16384 ∧ k_rd B 16 i = x ∧ ∀ n : Nat, n < 14 → (x.testBit n = true ↔ ∃ t : Int, 0 ≤ t ∧ t < S ∧ k_rd A (72 + 8 * t + 3) n = a_f ok k i))
theorem a_If {A B C : k_H} {s S mi : Int} {X Y ok : Int → Int} {k : Nat} (h : a_I A B s S mi X Y ok k) (f : ∀ a i : Int, a < 5 ∨ 11 < a → k_rd C a i = k_rd B a i) : a_I A C s S mi X Y ok k := by
  obtain ⟨h1, h2, h3, h4, h5⟩ := h
  refine ⟨by rw [f _ _ (by omega)]; exact h1, fun a i q => by rw [f _ _ (by omega)]; exact h2 a i q, fun i q => by rw [f _ _ (by omega), f _ _ (by omega)]; exact h3 i q, fun i j x y z => by rw [f _ _ (by omega)]; exact h4 i j x y z, fun i q => by rw [f _ _ (by omega)]; exact h5 i q⟩
/-- the loop that asks; v h: what fitOf says, G h: the points -/
theorem c_askL {A : k_H} {s S mi : Int} {X Y G v ok : Int → Int} {H : Nat} (hs : 0 ≤ s ∧ s < 6) (H12 : H ≤ 12) (hH : k_rd A 0 6 = H) (hS : k_rd A 0 7 = S) (hS0 : 0 ≤ S) (hS6 : S ≤ 6) (hmi : k_rd A 12 8 = mi) (bmi : 1 ≤ mi ∧ mi ≤ 200) (hX : ∀ h : Int, 0 ≤ h → h < 12 → k_rd A (24 + 4 * h) 2 = X h) (hY : ∀ h : Int, 0 ≤ h → h < 12 → k_rd A (24 + 4 * h) 3 = Y h) (bX : z_B X) (bY : z_B Y) (hG : ∀ h : Int, 0 ≤ h → h < 12 → k_rd A (24 + 4 * h + 3) s = G h) (hok : ∀ h : Int, 0 ≤ h → h < 12 → ok h = if 0 < G h ∧ v h = 1 then 1 else 0) (hv : ∀ h : Int, 0 ≤ h → h < 12 → ∀ B, (∀ a i : Int, a < 5 ∨ 16 < a → k_rd B a i = k_rd A a i) → ∃ C, gX8_fitOf B (72 + 8 * s) (24 + 4 * h) = some (v h, C) ∧ ∀ a i : Int, a < 5 ∨ 11 < a → k_rd C a i = k_rd B a i) : ∀ (d N k : Nat) (B : k_H), k + d = H → a_I A B s S mi X Y ok k → ∃ B', gX8_book_h34 (N + d + 1) B s k = (k_bd (gX2_bookBest B' (72 + 8 * s)) fun _ A4 => k_bd (gX8_worthOfTour A4 s) fun r7 A8 => some (r7, A8)) ∧ a_I A B' s S mi X Y ok H := by
  intro d
  induction d with
  | zero =>
    intro N k B kd I
    have : k = H := by omega
    subst this
    refine ⟨B, ?_, I⟩
    rw [gX8_book_h34, I.2.1 0 6 (by omega), hH, if_neg (by omega), if_pos (by omega)]
  | succ d ih =>
    intro N k B kd I
    show ∃ B', gX8_book_h34 ((N + d + 1) + 1) B s k = _ ∧ _
    have hk : (0 : Int) ≤ k ∧ (k : Int) < 12 := by omega
    have g := hG k hk.1 hk.2
    have okk := hok k hk.1 hk.2
    have ek : k_wr ((k : Int) + 1) = ((k + 1 : Nat) : Int) := by rw [k_wr_of (by omega) (by omega)]; omega
    have c6 := a_c6 (ok := ok) k
    have skip : ∀ C, a_I A C s S mi X Y ok k → ¬ (ok k = 1 ∧ a_c ok k < 6) → ∃ B', gX8_book_h34 (N + d + 1) C s ((k + 1 : Nat) : Int) = (k_bd (gX2_bookBest B' (72 + 8 * s)) fun _ A4 => k_bd (gX8_worthOfTour A4 s) fun r7 A8 => some (r7, A8)) ∧ a_I A B' s S mi X Y ok H := by
      intro C IC n
      refine ih N (k + 1) C (by omega) ?_
      have e1 : a_c ok (k + 1) = a_c ok k := by rw [a_c, if_neg n]
      have e2 : a_f ok (k + 1) = a_f ok k := by rw [a_f, if_neg n]
      unfold a_I
      rw [e1, e2]
      exact IC
    rw [gX8_book_h34, I.2.1 0 6 (by omega), hH, if_pos (by omega), if_pos (by omega), if_pos (by omega), I.2.1 _ _ (by omega), g]
    simp only [gX8_book_b114]
    rw [ek]
    by_cases g0 : 0 < G k
    · rw [if_pos g0]
      unfold gX2_asksMore gX2_asksMore_b0
      rw [I.1]
      by_cases full : a_c ok k < 6
      · rw [if_pos (by omega), k_bds, if_neg (by omega), if_pos (by omega)]
        obtain ⟨C, f1, f2⟩ := hv k hk.1 hk.2 B (fun a i q => I.2.1 a i (by omega))
        rw [f1, k_bds]
        have IC := a_If I f2
        by_cases v1 : v k = 1
        · have ok1 : ok k = 1 := by rw [okk, if_pos ⟨g0, v1⟩]
          rw [if_pos v1]
          have fB := fun i hi => a_fB (ok := ok) k i hi
          obtain ⟨B1, a1, a2, a3, a4, a5, a6, a7, a8⟩ := c_ask1 (B := C) (h := k) (g := k_rd C (24 + 4 * (k : Int) + 3) s) (mi := mi) (c := a_c ok k) (X := X) (Y := Y) (f := a_f ok k) IC.1 full hk (by rw [IC.2.1 _ _ (by omega)]; exact hmi) bmi (fun i hi => ⟨(IC.2.2.1 i hi).1, by have := fB i hi; omega⟩) (fun h x y => by rw [IC.2.1 _ _ (by omega)]; exact hX h x y) (fun h x y => by rw [IC.2.1 _ _ (by omega)]; exact hY h x y) bX bY
          obtain ⟨x, x1, x2, x3⟩ := c_close (B := B1) (h := k) (S := S) (c := a_c ok k) a2 full (by rw [a6, if_pos rfl]) (by rw [a3 _ _ (by omega) (by omega) (by omega) (by omega) (by omega), IC.2.1 _ _ (by omega)]; exact hS) hS0 hS6
          rw [a1, k_bds, x2, k_bds]
          refine ih N (k + 1) (k_wt B1 16 (a_c ok k) x) (by omega) ?_
          have e1 : a_c ok (k + 1) = a_c ok k + 1 := by rw [a_c, if_pos ⟨ok1, full⟩]
          have e2 : a_f ok (k + 1) = q_up (a_f ok k) (a_c ok k) k := by rw [a_f, if_pos ⟨ok1, full⟩]
          unfold a_I
          rw [e1, e2]
          refine ⟨by rw [p_rwn (by omega), a2]; omega, fun a i q => ?_, fun i hi => ?_, fun i j hi hj ij => ?_, fun i hi => ?_⟩
          · rw [p_rwn (by omega), a3 a i (by omega) (by omega) (by omega) (by omega) (by omega), IC.2.1 a i q]
          · rw [p_rwn (by omega), p_rwn (by omega), a4, a5]
            by_cases z : i = a_c ok k
            · subst z
              rw [if_pos rfl, if_pos rfl, q_upe, IC.2.1 _ _ (by omega)]
              exact ⟨rfl, rfl⟩
            · rw [if_neg (by omega), if_neg (by omega), q_upn (by omega)]
              exact IC.2.2.1 i (by omega)
          · rw [p_rwn (by omega)]
            by_cases zi : i = a_c ok k
            · have fj := fB j (by omega)
              subst zi
              rw [q_upe, q_upn (by omega), (a8 j (by omega)).2]
              unfold a_p
              rw [(z_dB bX bY (by omega) hk).2.2]
            · by_cases zj : j = a_c ok k
              · subst zj
                rw [q_upe, q_upn (by omega), (a8 i (by omega)).1]
              · rw [q_upn (by omega), q_upn (by omega), a7 i j (by omega) (by omega)]
                exact IC.2.2.2.1 i j (by omega) (by omega) ij
          · rw [p_rw, a6]
            by_cases z : i = a_c ok k
            · subst z
              refine ⟨x, x1, by rw [if_pos ⟨rfl, rfl⟩], fun n hn => ?_⟩
              rw [x3 n hn, q_upe]
              constructor
              · rintro ⟨t, t0, t1, t2⟩
                exact ⟨t, t0, t1, by rw [← t2, a3 _ _ (by omega) (by omega) (by omega) (by omega) (by omega), IC.2.1 _ _ (by omega)]⟩
              · rintro ⟨t, t0, t1, t2⟩
                exact ⟨t, t0, t1, by rw [a3 _ _ (by omega) (by omega) (by omega) (by omega) (by omega), IC.2.1 _ _ (by omega), t2]⟩
            · rw [if_neg (by omega), if_neg (by omega), q_upn (by omega)]
              exact IC.2.2.2.2 i (by omega)
        · rw [if_neg v1]
          exact skip C IC (fun q => by rw [okk, if_neg (fun w => v1 w.2)] at q; omega)
      · rw [if_neg (by omega), k_bds, if_pos rfl]
        exact skip B I (fun q => full q.2)
    · rw [if_neg g0]
      exact skip B I (fun q => by rw [okk, if_neg (fun w => g0 w.1)] at q; omega)
