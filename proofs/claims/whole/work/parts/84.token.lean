/-! terms: letters, digits, bytes -/
def x_l (c : Int) : Int := if 97 ≤ c ∧ c ≤ 122 then 1 else 0
def x_d (c : Int) : Int := if 48 ≤ c ∧ c ≤ 57 then 1 else 0
theorem x_l1 {c : Int} : x_l c ≠ 0 ↔ 97 ≤ c ∧ c ≤ 122 := by unfold x_l; split <;> simp_all
theorem x_d1 {c : Int} : x_d c ≠ 0 ↔ 48 ≤ c ∧ c ≤ 57 := by unfold x_d; split <;> simp_all
theorem x_l0 (c : Int) : x_l c = 0 ∨ x_l c = 1 := by unfold x_l; split <;> simp
theorem h_let (A : k_H) (c : Int) : gX7_isLetter A c = some (x_l c, A) := by
  unfold gX7_isLetter gX7_isLetter_b0 x_l
  by_cases h0 : 97 ≤ c
  · by_cases h1 : c ≤ 122 <;> simp [h0, h1]
  · simp [h0]
theorem h_dig (A : k_H) (c : Int) : gX7_isDigit A c = some (x_d c, A) := by
  unfold gX7_isDigit gX7_isDigit_b0 x_d
  by_cases h0 : 48 ≤ c
  · by_cases h1 : c ≤ 57 <;> simp [h0, h1]
  · simp [h0]
theorem h_sml (A : k_H) (c : Int) : gX9_isSmall A c = some (x_l c, A) := by
  unfold gX9_isSmall gX9_isSmall_b0 x_l
  by_cases h0 : 97 ≤ c
  · by_cases h1 : c ≤ 122 <;> simp [h0, h1]
  · simp [h0]
theorem h_dgm (A : k_H) (c : Int) : gX9_isDigit A c = some (x_d c, A) := by
  unfold gX9_isDigit gX9_isDigit_b0 x_d
  by_cases h0 : 48 ≤ c
  · by_cases h1 : c ≤ 57 <;> simp [h0, h1]
  · simp [h0]
theorem h_blk (A : k_H) (c : Int) : gX7_isBlank A c = some (if c = 32 ∨ c = 10 then 1 else 0, A) := by
  unfold gX7_isBlank gX7_isBlank_b0 gX7_isBlank_b12
  by_cases h0 : c = 32
  · simp [h0]
  · by_cases h1 : c = 10 <;> simp [h0, h1]
def x_T (T : Int → Int) (Ln : Int) : Prop := 0 ≤ Ln ∧ Ln ≤ 200 ∧ ∀ i : Int, 0 ≤ i → i < Ln → 0 ≤ T i ∧ T i ≤ 255
def x_c (T : Int → Int) (Ln : Int) (A : k_H) : Prop := k_rd A 22 1 = Ln ∧ ∀ i : Int, 0 ≤ i → i < 200 → k_rd A 23 i = T i
def x_m (T : Int → Int) (Ln : Int) (A : k_H) : Prop := k_rd A 120 3 = Ln ∧ ∀ i : Int, 0 ≤ i → i < 200 → k_rd A 121 i % 256 = T i
theorem x_cw {T : Int → Int} {Ln : Int} {A : k_H} (h : x_c T Ln A) {a i v : Int} (q : a ≠ 22 ∧ a ≠ 23) : x_c T Ln (k_wt A a i v) := ⟨by rw [p_rwn (by omega)]; exact h.1, fun j x y => by rw [p_rwn (by omega)]; exact h.2 j x y⟩
theorem x_mw {T : Int → Int} {Ln : Int} {A : k_H} (h : x_m T Ln A) {a i v : Int} (q : a ≠ 121 ∧ (a ≠ 120 ∨ i ≠ 3)) : x_m T Ln (k_wt A a i v) := ⟨by rw [p_rwn (by omega)]; exact h.1, fun j x y => by rw [p_rwn (by omega)]; exact h.2 j x y⟩
section
variable {T : Int → Int} {Ln : Int} (hT : x_T T Ln)
theorem h_byt (hT : x_T T Ln) {A : k_H} (hA : x_c T Ln A) {p : Int} (h0 : 0 ≤ p) : gX5_byteAt A 22 p = some (if p < Ln then T p else -1, A) := by
  have := hT.2.1
  by_cases z : p < Ln
  · rw [if_pos z, c_byteAt h0 (by rw [hA.1]; exact z) (by omega)]
    have e : k_rd A (22 + 1) p = T p := hA.2 p h0 (by omega)
    rw [e]
  · rw [if_neg z]
    unfold gX5_byteAt gX5_byteAt_b0
    rw [if_pos h0, hA.1, if_neg z]
theorem h_pk (hT : x_T T Ln) {A : k_H} (hA : x_m T Ln A) {p : Int} (hp : k_rd A 120 4 = p) (h0 : 0 ≤ p) : gX9_peek A = some (if p < Ln then T p else -1, A) := by
  have := hT.2.1
  unfold gX9_peek gX9_peek_b0
  rw [hp, hA.1]
  by_cases z : p < Ln
  · rw [if_pos z, if_pos z, if_pos (by omega), p_and255, hA.2 p h0 (by omega)]
  · rw [if_neg z, if_neg z]
theorem p_wts {A : k_H} {a i v : Int} (h : k_rd A a i = v) : k_wt A a i v = A := by
  have := p_wtb (A := A) (a := a) (i := i) (v := v + 1) (w := v) h
  rw [p_wtw] at this
  exact this
/-! blanks -/
def x_a (A : k_H) : Option (Int × k_H) := k_lt (k_wt A 120 37 (k_rd A 120 4)) fun A11 => k_bd (gX9_peek A11) fun r14 A15 => if r14 < 0 then (k_lt (k_wt A15 120 36 0) fun A30 => some (0, A30)) else (k_bd (gX9_isSmall A15 r14) fun r19 A20 => if r19 = 0 then (k_bd (gX9_isDigit A20 r14) fun r24 A25 => if r24 = 0 then (if r14 = 59 then (gX9_next_b80 A25 3) else (gX9_next_b80 A25 4)) else (gX9_next_b94 A25 r14)) else (gX9_next_b94 A20 r14))
theorem x_sk (hT : x_T T Ln) : ∀ (d : Nat) (p : Int), 0 ≤ p → p + d = Ln → ∃ f : Int, p ≤ f ∧ f ≤ Ln ∧ (f < Ln → T f ≠ 32 ∧ T f ≠ 10) ∧ (∀ (N : Nat) (A : k_H), x_c T Ln A → k_rd A 18 8 = p → gX7_nextToken_h0 (N + d + 1) A = gX7_nextToken_b44 (k_wt A 18 8 f)) ∧ (∀ (N : Nat) (A : k_H), x_m T Ln A → k_rd A 120 4 = p → gX9_next_h0 (N + d + 1) A = x_a (k_wt A 120 4 f)) := by
  have hL := hT.2.1
  intro d
  induction d with
  | zero =>
    intro p p0 pd
    refine ⟨p, Int.le_refl _, by omega, fun q => by omega, fun N A hA h8 => ?_, fun N A hA h4 => ?_⟩
    · rw [gX7_nextToken_h0, h8, hA.1, if_neg (by omega), p_wts h8]
    · rw [gX9_next_h0, h_pk hT hA h4 p0, k_bds, if_neg (by omega : ¬ p < Ln), if_neg (by omega), h_pk hT hA h4 p0, k_bds, if_neg (by omega : ¬ p < Ln), if_neg (by omega), p_wts h4]
      rfl
  | succ d ih =>
    intro p p0 pd
    have cb := hT.2.2 p p0 (by omega)
    by_cases z : T p = 32 ∨ T p = 10
    · obtain ⟨f, f1, f2, f3, f4, f5⟩ := ih (p + 1) (by omega) (by omega)
      refine ⟨f, by omega, f2, f3, fun N A hA h8 => ?_, fun N A hA h4 => ?_⟩
      · show gX7_nextToken_h0 ((N + d + 1) + 1) A = _
        rw [gX7_nextToken_h0, h8, hA.1, if_pos (by omega), h_byt hT hA p0, k_bds, if_pos (by omega : p < Ln), h_blk, k_bds, if_pos z, if_neg (by omega), p_lt, h8, k_wr_of (x := p + 1) (by omega) (by omega), f4 N _ (x_cw hA (by omega)) p_rwe, p_wtw]
      · show gX9_next_h0 ((N + d + 1) + 1) A = _
        rw [gX9_next_h0, h_pk hT hA h4 p0, k_bds, if_pos (by omega : p < Ln)]
        simp only [gX9_next_b18, p_lt]
        rw [h_pk hT hA h4 p0, k_bds, if_pos (by omega : p < Ln), h4, k_wr_of (x := p + 1) (by omega) (by omega), f5 N _ (x_mw hA (by omega)) p_rwe, p_wtw]
        by_cases y : T p = 32
        · rw [if_pos y]
        · rw [if_neg y, if_pos (by omega)]
    · refine ⟨p, Int.le_refl _, by omega, fun _ => by omega, fun N A hA h8 => ?_, fun N A hA h4 => ?_⟩
      · show gX7_nextToken_h0 ((N + d + 1) + 1) A = _
        rw [gX7_nextToken_h0, h8, hA.1, if_pos (by omega), h_byt hT hA p0, k_bds, if_pos (by omega : p < Ln), h_blk, k_bds, if_neg z, if_pos rfl, p_wts h8]
      · show gX9_next_h0 ((N + d + 1) + 1) A = _
        rw [gX9_next_h0, h_pk hT hA h4 p0, k_bds, if_pos (by omega : p < Ln), if_neg (by omega), h_pk hT hA h4 p0, k_bds, if_pos (by omega : p < Ln), if_neg (by omega), p_wts h4]
        rfl
end
/-! a run of letters and digits: what both sides gather -/
def x_v (T : Int → Int) : Nat → Int → Int → Int
  | 0, _, v => v
  | k + 1, q, v => x_v T k (q + 1) (if x_l (T q) = 0 then k_wr (k_wr (k_wr (v * 10) + T q) - 48) else v)
def x_n (T : Int → Int) : Nat → Int → Int → Int → Int
  | 0, _, _, v => v
  | k + 1, q, n, v => x_n T k (q + 1) (n + 1) (if n < 5 then k_wr (k_wr (k_wr (10 * v) + T q) - 48) else v)
def x_w (T : Int → Int) : Nat → Int → Int → Int → Int
  | 0, _, _, v => v
  | k + 1, q, n, v => x_w T k (q + 1) (n + 1) (if n < 8 then k_lorr (k_lshl v 8) (T q) else v)
def x_al (T : Int → Int) (sm : Int) : Nat → Int → Int → Int
  | 0, _, v => v
  | k + 1, q, v => x_al T sm k (q + 1) (if v = 0 then 0 else if x_l (T q) = sm then 1 else 0)
def x_lc (T : Int → Int) (i : Int) : Int := x_l (T i)
section
variable {T : Int → Int} {Ln : Int}
theorem x_rn (hT : x_T T Ln) : ∀ (d : Nat) (q : Int), 0 ≤ q → q + d = Ln → ∃ k : Nat, q + k ≤ Ln ∧ (q < Ln → (x_l (T q) ≠ 0 ∨ x_d (T q) ≠ 0) → 1 ≤ k) ∧ (∀ i : Int, q ≤ i → i < q + k → x_l (T i) ≠ 0 ∨ x_d (T i) ≠ 0) ∧ (∀ (N : Nat) (A : k_H) (v1 v2 : Int), x_c T Ln A → k_rd A 18 8 = q → 0 ≤ v1 → v1 ≤ q → gX7_readRun_h4 (N + d + 1) A v1 v2 = gX7_readRun_b100 (k_wt A 18 8 (q + k)) (v1 + q_af (x_lc T) k q) (x_v T k q v2)) ∧ (∀ (N : Nat) (A : k_H) (v2 v3 v4 w n : Int), x_m T Ln A → k_rd A 120 4 = q → k_rd A 120 42 = w → k_rd A 120 38 = n → 0 ≤ v4 → v4 ≤ q → gX9_next_h114 (N + d + 1) A v2 v3 v4 = (fun B => if 8 < v4 + k then gX9_next_b232 (k_wt B 120 42 0) v2 (x_al T v2 k q v3) (v4 + k) else gX9_next_b232 B v2 (x_al T v2 k q v3) (v4 + k)) (k_wt (k_wt (k_wt A 120 42 (x_w T k q v4 w)) 120 38 (x_n T k q v4 n)) 120 4 (q + k))) := by
  have hL := hT.2.1
  have stop : ∀ (q : Int) (d : Nat), 0 ≤ q → q + d = Ln → (q < Ln → x_l (T q) = 0 ∧ x_d (T q) = 0) → (∀ (N : Nat) (A : k_H) (v1 v2 : Int), x_c T Ln A → k_rd A 18 8 = q → gX7_readRun_h4 (N + d + 1) A v1 v2 = gX7_readRun_b100 A v1 v2) ∧ (∀ (N : Nat) (A : k_H) (v2 v3 v4 : Int), x_m T Ln A → k_rd A 120 4 = q → gX9_next_h114 (N + d + 1) A v2 v3 v4 = if 8 < v4 then gX9_next_b232 (k_wt A 120 42 0) v2 v3 v4 else gX9_next_b232 A v2 v3 v4) := by
    intro q d q0 qd no
    have neg : x_l (-1) = 0 ∧ x_d (-1) = 0 := by decide
    constructor
    · intro N A v1 v2 hA h8
      rw [gX7_readRun_h4, h8, hA.1]
      by_cases z : q < Ln
      · have n2 := no z
        rw [if_pos z, h_byt hT hA q0, k_bds, if_pos z, h_let, k_bds, if_pos n2.1, h8, h_byt hT hA q0, k_bds, if_pos z, h_dig, k_bds, if_pos n2.2]
      · rw [if_neg z]
    · intro N A v2 v3 v4 hA h4
      rw [gX9_next_h114, h_pk hT hA h4 q0, k_bds, h_sml, k_bds]
      have n2 : x_l (if q < Ln then T q else -1) = 0 ∧ x_d (if q < Ln then T q else -1) = 0 := by
        by_cases z : q < Ln
        · rw [if_pos z]; exact no z
        · rw [if_neg z]; exact neg
      rw [if_pos n2.1, h_pk hT hA h4 q0, k_bds, h_dgm, k_bds, if_pos n2.2]
      simp only [p_lt]
  intro d
  induction d with
  | zero =>
    intro q q0 qd
    have st := stop q 0 q0 qd (fun z => by omega)
    refine ⟨0, by omega, fun z => by omega, fun i x y => by omega, fun N A v1 v2 hA h8 _ _ => ?_, fun N A v2 v3 v4 w n hA h4 hw hn _ _ => ?_⟩
    · have e : q + ((0 : Nat) : Int) = q := by omega
      rw [st.1 N A v1 v2 hA h8, e, p_wts h8, q_af, x_v, Int.add_zero]
    · have e : q + ((0 : Nat) : Int) = q := by omega
      have e2 : v4 + ((0 : Nat) : Int) = v4 := by omega
      show _ = if 8 < v4 + ((0 : Nat) : Int) then _ else _
      rw [st.2 N A v2 v3 v4 hA h4, e, e2, x_w, x_n, x_al, p_wts hw, p_wts hn, p_wts h4]
  | succ d ih =>
    intro q q0 qd
    have cb := hT.2.2 q q0 (by omega)
    by_cases z : x_l (T q) = 0 ∧ x_d (T q) = 0
    · have st := stop q (d + 1) q0 qd (fun _ => z)
      refine ⟨0, by omega, fun _ w => by rcases w with w | w; exact absurd z.1 w; exact absurd z.2 w, fun i x y => by omega, fun N A v1 v2 hA h8 _ _ => ?_, fun N A v2 v3 v4 w n hA h4 hw hn _ _ => ?_⟩
      · have e : q + ((0 : Nat) : Int) = q := by omega
        rw [st.1 N A v1 v2 hA h8, e, p_wts h8, q_af, x_v, Int.add_zero]
      · have e : q + ((0 : Nat) : Int) = q := by omega
        have e2 : v4 + ((0 : Nat) : Int) = v4 := by omega
        show _ = if 8 < v4 + ((0 : Nat) : Int) then _ else _
        rw [st.2 N A v2 v3 v4 hA h4, e, e2, x_w, x_n, x_al, p_wts hw, p_wts hn, p_wts h4]
    · have z2 : x_l (T q) ≠ 0 ∨ x_d (T q) ≠ 0 := by
        by_cases y : x_l (T q) = 0
        · exact Or.inr (fun w => z ⟨y, w⟩)
        · exact Or.inl y
      obtain ⟨k, k1, _, k2, k3, k4⟩ := ih (q + 1) (by omega) (by omega)
      refine ⟨k + 1, by omega, fun _ _ => by omega, fun i x y => ?_, fun N A v1 v2 hA h8 b0 b1 => ?_, fun N A v2 v3 v4 w n hA h4 hw hn b0 b1 => ?_⟩
      · by_cases e : i = q
        · rw [e]; exact z2
        · exact k2 i (by omega) (by omega)
      · show gX7_readRun_h4 ((N + d + 1) + 1) A v1 v2 = _
        have b52 : gX7_readRun_b52 (gX7_readRun_h4 (N + d + 1)) A v1 v2 = gX7_readRun_b100 (k_wt A 18 8 (q + ((k + 1 : Nat) : Int))) (v1 + q_af (x_lc T) (k + 1) q) (x_v T (k + 1) q v2) := by
          unfold gX7_readRun_b52
          rw [h8, h_byt hT hA q0, k_bds, if_pos (by omega : q < Ln), h_let, k_bds]
          simp only [gX7_readRun_b87, p_lt]
          rw [h8, k_wr_of (x := q + 1) (by omega) (by omega), k_wr_of (x := v1 + 1) (by omega) (by omega)]
          have e1 : q + 1 + (k : Int) = q + ((k + 1 : Nat) : Int) := by omega
          by_cases y : x_l (T q) = 0
          · rw [if_pos y, k3 N _ v1 _ (x_cw hA (by omega)) p_rwe b0 (by omega), p_wtw, e1]
            have e2 : v1 + q_af (x_lc T) k (q + 1) = v1 + q_af (x_lc T) (k + 1) q := by
              rw [q_af]; unfold x_lc at *; omega
            rw [e2, x_v, if_pos y]
          · rw [if_neg y, k3 N _ (v1 + 1) _ (x_cw hA (by omega)) p_rwe (by omega) (by omega), p_wtw, e1]
            have y1 : x_l (T q) = 1 := by rcases x_l0 (T q) with h | h <;> omega
            have e2 : v1 + 1 + q_af (x_lc T) k (q + 1) = v1 + q_af (x_lc T) (k + 1) q := by
              have : x_lc T q = 1 := y1
              rw [q_af]; omega
            rw [e2, x_v, if_neg y]
        rw [gX7_readRun_h4, h8, hA.1, if_pos (by omega), h_byt hT hA q0, k_bds, if_pos (by omega : q < Ln), h_let, k_bds, b52, h8, h_byt hT hA q0, k_bds, if_pos (by omega : q < Ln), h_dig, k_bds]
        by_cases y : x_l (T q) = 0
        · have y2 : ¬ x_d (T q) = 0 := fun w => z ⟨y, w⟩
          rw [if_pos y, if_neg y2, b52]
        · rw [if_neg y]
      · show gX9_next_h114 ((N + d + 1) + 1) A v2 v3 v4 = _
        have fin : ∀ s0, gX9_next_b154 (gX9_next_h114 (N + d + 1)) A v2 v4 s0 = (fun B => if 8 < v4 + ((k + 1 : Nat) : Int) then gX9_next_b232 (k_wt B 120 42 0) v2 (x_al T v2 k (q + 1) s0) (v4 + ((k + 1 : Nat) : Int)) else gX9_next_b232 B v2 (x_al T v2 k (q + 1) s0) (v4 + ((k + 1 : Nat) : Int))) (k_wt (k_wt (k_wt A 120 42 (x_w T (k + 1) q v4 w)) 120 38 (x_n T (k + 1) q v4 n)) 120 4 (q + ((k + 1 : Nat) : Int))) := by
          intro s0
          have e1 : q + 1 + (k : Int) = q + ((k + 1 : Nat) : Int) := by omega
          have e2 : v4 + 1 + (k : Int) = v4 + ((k + 1 : Nat) : Int) := by omega
          -- the heap with word, number and place moved on
          have go : ∀ w' n', gX9_next_b204 (gX9_next_h114 (N + d + 1)) (k_wt (k_wt A 120 42 w') 120 38 n') v2 s0 v4 = (fun B => if 8 < v4 + ((k + 1 : Nat) : Int) then gX9_next_b232 (k_wt B 120 42 0) v2 (x_al T v2 k (q + 1) s0) (v4 + ((k + 1 : Nat) : Int)) else gX9_next_b232 B v2 (x_al T v2 k (q + 1) s0) (v4 + ((k + 1 : Nat) : Int))) (k_wt (k_wt (k_wt A 120 42 (x_w T k (q + 1) (v4 + 1) w')) 120 38 (x_n T k (q + 1) (v4 + 1) n')) 120 4 (q + ((k + 1 : Nat) : Int))) := by
            intro w' n'
            unfold gX9_next_b204
            rw [p_lt, p_rwn (by omega), p_rwn (by omega), h4, k_wr_of (x := q + 1) (by omega) (by omega), k_wr_of (x := v4 + 1) (by omega) (by omega), k4 N _ v2 s0 (v4 + 1) w' n' (x_mw (x_mw (x_mw hA (by omega)) (by omega)) (by omega)) p_rwe (by rw [p_rwn (by omega), p_rwn (by omega), p_rwe]) (by rw [p_rwn (by omega), p_rwe]) (by omega) (by omega), e1, e2]
            have com : k_wt (k_wt (k_wt (k_wt (k_wt (k_wt A 120 42 w') 120 38 n') 120 4 (q + 1)) 120 42 (x_w T k (q + 1) (v4 + 1) w')) 120 38 (x_n T k (q + 1) (v4 + 1) n')) 120 4 (q + ((k + 1 : Nat) : Int)) = k_wt (k_wt (k_wt A 120 42 (x_w T k (q + 1) (v4 + 1) w')) 120 38 (x_n T k (q + 1) (v4 + 1) n')) 120 4 (q + ((k + 1 : Nat) : Int)) := by
              show (A.1, A.2.1, _) = (A.1, A.2.1, _)
              congr 2
              funext x y
              show k_rd (k_wt (k_wt (k_wt (k_wt (k_wt (k_wt A 120 42 w') 120 38 n') 120 4 (q + 1)) 120 42 (x_w T k (q + 1) (v4 + 1) w')) 120 38 (x_n T k (q + 1) (v4 + 1) n')) 120 4 (q + ((k + 1 : Nat) : Int))) x y = k_rd (k_wt (k_wt (k_wt A 120 42 (x_w T k (q + 1) (v4 + 1) w')) 120 38 (x_n T k (q + 1) (v4 + 1) n')) 120 4 (q + ((k + 1 : Nat) : Int))) x y
              simp only [p_rw]
              split
              · rfl
              · split
                · rfl
                · split
                  · rfl
                  · rfl
            rw [com]
          have pk : ∀ B, x_m T Ln B → k_rd B 120 4 = q → gX9_peek B = some (T q, B) := fun B hB h => by rw [h_pk hT hB h q0, if_pos (by omega)]
          unfold gX9_next_b154
          simp only [gX9_next_b179, p_lt]
          rw [x_w, x_n]
          by_cases w8 : v4 < 8
          · rw [if_pos w8, if_pos w8, pk A hA h4, k_bds, hw, pk _ (x_mw hA (by omega)) (by rw [p_rwn (by omega)]; exact h4), k_bds, p_rwn (by omega), hn]
            by_cases n5 : v4 < 5
            · rw [if_pos n5, if_pos n5]; exact go _ _
            · rw [if_neg n5, if_neg n5]
              have := go (k_lorr (k_lshl w 8) (T q)) n
              rw [p_wts (A := k_wt A 120 42 (k_lorr (k_lshl w 8) (T q))) (a := 120) (i := 38) (v := n) (by rw [p_rwn (by omega)]; exact hn)] at this
              exact this
          · rw [if_neg w8, if_neg w8, if_neg (show ¬ v4 < 5 by omega), if_neg (show ¬ v4 < 5 by omega)]
            have := go w n
            rw [p_wts hw, p_wts hn] at this
            exact this
        have b134 : gX9_next_b134 (gX9_next_h114 (N + d + 1)) A v2 v3 v4 = (fun B => if 8 < v4 + ((k + 1 : Nat) : Int) then gX9_next_b232 (k_wt B 120 42 0) v2 (x_al T v2 (k + 1) q v3) (v4 + ((k + 1 : Nat) : Int)) else gX9_next_b232 B v2 (x_al T v2 (k + 1) q v3) (v4 + ((k + 1 : Nat) : Int))) (k_wt (k_wt (k_wt A 120 42 (x_w T (k + 1) q v4 w)) 120 38 (x_n T (k + 1) q v4 n)) 120 4 (q + ((k + 1 : Nat) : Int))) := by
          unfold gX9_next_b134
          simp only [gX9_next_b153]
          rw [h_pk hT hA h4 q0, k_bds, if_pos (by omega : q < Ln), h_sml, k_bds, fin, fin, x_al]
          by_cases y : v3 = 0
          · rw [if_pos y, if_pos y]
          · rw [if_neg y, if_neg y]
            by_cases y2 : x_l (T q) = v2
            · rw [if_pos y2, if_pos y2]
            · rw [if_neg y2, if_neg y2]
        rw [gX9_next_h114, h_pk hT hA h4 q0, k_bds, if_pos (by omega : q < Ln), h_sml, k_bds, b134, h_pk hT hA h4 q0, k_bds, if_pos (by omega : q < Ln), h_dgm, k_bds]
        by_cases y : x_l (T q) = 0
        · have y2 : ¬ x_d (T q) = 0 := fun w => z ⟨y, w⟩
          rw [if_pos y, if_neg y2, b134]
        · rw [if_neg y]
end
