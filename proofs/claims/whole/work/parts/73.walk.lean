/-! the class walks from the first night -/
theorem e_oX {E : e_E} (hp : ∀ i : Int, 0 ≤ i → i < e_mn E → 1 ≤ e_pt E i) {k : Nat} {n : Int} {s : e_s} : (e_o E k n s = e_mn E ∧ e_V E (k + 1) n s = e_V E k (n + 1) (e_rs s) ∧ ∀ i, i < e_mn E → e_can E n s i = true → e_vl E k n s i < e_V E (k + 1) n s) ∨ (e_o E k n s < e_mn E ∧ e_can E n s (e_o E k n s) = true ∧ e_V E (k + 1) n s = e_vl E k n s (e_o E k n s) ∧ ∀ i, i < e_o E k n s → e_can E n s i = true → e_vl E k n s i < e_V E (k + 1) n s) := by
  rw [e_V1]
  unfold e_o
  have v0 := e_V0 E k (n + 1) (e_rs s)
  by_cases z : (e_sc (e_can E n s) (e_vl E k n s) (e_mn E)).1 < e_V E k (n + 1) (e_rs s)
  · rw [if_pos z]
    refine Or.inl ⟨rfl, by omega, fun i hi c => ?_⟩
    have := e_scU (can := e_can E n s) (val := e_vl E k n s) (e_mn E) i hi c
    omega
  · rw [if_neg z]
    rcases e_scX (can := e_can E n s) (val := e_vl E k n s) (e_mn E) with ⟨q, _⟩ | ⟨i, a, b, c, d, f⟩
    · rw [q] at z
      have : ¬ (-1 : Int) < e_V E k (n + 1) (e_rs s) := z
      omega
    · rw [c] at z ⊢
      have z2 : ¬ e_vl E k n s i < e_V E k (n + 1) (e_rs s) := z
      refine Or.inr ⟨a, b, ?_, fun j hj cj => ?_⟩
      · show max (e_vl E k n s i) (e_V E k (n + 1) (e_rs s)) = e_vl E k n s i
        omega
      · have := f j hj cj
        show e_vl E k n s j < max (e_vl E k n s i) (e_V E k (n + 1) (e_rs s))
        omega
theorem e_pa0 {E : e_E} (hp : ∀ i : Int, 0 ≤ i → i < e_mn E → 1 ≤ e_pt E i) : ∀ (k : Nat) (n : Int) (s : e_s), e_V E k n s = 0 → ∀ j, e_pa E k n s j = e_mn E := by
  intro k
  induction k with
  | zero => intro n s _ j; rfl
  | succ k ih =>
    intro n s v j
    rcases e_oX hp (k := k) (n := n) (s := s) with ⟨a, b, c⟩ | ⟨a, b, c, d⟩
    · rw [e_pa, a]
      unfold e_st
      rw [if_pos rfl]
      split
      · rfl
      · exact ih (n + 1) (e_rs s) (by omega) j
    · rw [c] at v
      unfold e_vl at v
      have := hp (e_o E k n s) (by omega) (by omega)
      have := e_V0 E k (n + 1) (e_nx n s (e_o E k n s))
      omega
section
variable {A : k_H} {E : e_E} {to : Int}
theorem e_hp1 (c : e_cx A E to) : ∀ i : Int, 0 ≤ i → i < e_mn E → 1 ≤ e_pt E i := by
  intro i i0 i1
  obtain ⟨j, rfl⟩ : ∃ j : Nat, i = j := ⟨i.toNat, by omega⟩
  exact (c.2.2.2.2.2.2.2.2.2.1 j (by omega)).2.1
def q_W (A : k_H) (P : Int → Int) (v : Int) (T : Int → Int) : k_H := q_put (q_G A P) v T
theorem q_Wn {A : k_H} {P : Int → Int} {v : Int} {T : Int → Int} {a j : Int} (h : a ≠ 17 ∧ a ≠ v) : k_rd (q_W A P v T) a j = k_rd A a j := by unfold q_W; rw [q_pn h.2, q_Gn h.1]
theorem q_W7 {A : k_H} {P : Int → Int} {v : Int} {T : Int → Int} {j : Int} (h : v ≠ 17) : k_rd (q_W A P v T) 17 j = P j := by unfold q_W; rw [q_pn (fun e => h e.symm), q_G7]
def e_br (E : e_E) (to n : Int) (u : Nat) (la ln ru left : Int) (i : Nat) : Prop := (la < 0 ∨ e_ap E la i ≤ n - ln) ∧ u.testBit i = false ∧ e_g E to n (u ||| 2 ^ i) i (ru + 1) = left
theorem c_fb1 (c : e_cx A E to) {P : Int → Int} {fr v : Int} {T : Int → Int} (hv : 24 ≤ v) (ok : e_ok E to P (fr - 1) 1 0) {n la ln v5 ru left : Int} {u : Nat} (fr0 : 0 ≤ fr) (hn : fr ≤ n ∧ n ≤ to) (hu : u < 2 ^ e_mn E) (hla : la = -1 ∨ (0 ≤ la ∧ la < e_mn E ∧ u.testBit la.toNat = true)) (h5 : 0 ≤ la → v5 = ln ∧ 0 ≤ ln ∧ ln < n) (hru : 0 ≤ ru ∧ ru ≤ e_pc u) {i : Nat} (hi : i < e_mn E) (N : Nat) (nn : Int) (hnn : 0 ≤ la → nn = n - ln) : (e_br E to n u la ln ru left i → gX2_firstBringing_h3 (N + 1) (q_W A P v T) left n u la nn (ru + 1) i = some ((i : Int), q_W A P v T)) ∧ (¬ e_br E to n u la ln ru left i → gX2_firstBringing_h3 (N + 1) (q_W A P v T) left n u la nn (ru + 1) i = gX2_firstBringing_h3 N (q_W A P v T) left n u la nn (ru + 1) ((i + 1 : Nat) : Int)) := by
  obtain ⟨c1, c2, c3, c4, c5, c6, c7, c8, c9, c10, c11⟩ := c
  have u64 := e_pow c2
  have pcb := e_pcB u
  have ei : k_wr ((i : Int) + 1) = ((i + 1 : Nat) : Int) := by rw [k_wr_of (by omega) (by omega)]; omega
  have o64 := e_orM hu hi
  have cell : u.testBit i = false → gX2_firstBringing_b41 (gX2_firstBringing_h3 N) (q_W A P v T) left n u la nn (ru + 1) i 1 = if e_g E to n (u ||| 2 ^ i) i (ru + 1) = left then some ((i : Int), q_W A P v T) else gX2_firstBringing_h3 N (q_W A P v T) left n u la nn (ru + 1) ((i + 1 : Nat) : Int) := by
    intro zf
    have pcs := e_pcS (u := u) (i := i) (by omega) (by omega) zf
    have pcb2 := e_pcB (u ||| 2 ^ i)
    have z : ¬ u.testBit i = true := by rw [zf]; simp
    unfold gX2_firstBringing_b41
    simp only [gX2_firstBringing_b79]
    rw [if_neg (by omega), c_has (by omega) (by omega), k_bds, if_neg z, if_pos rfl, b_or (by omega) (by omega), c_gain (by omega) (by omega) (by omega), k_bds, q_W7 (by omega), (ok n (u ||| 2 ^ i) i (by omega) hn.2 o64 hi (by rw [e_tb]; simp) (Or.inl (by omega))).1 (ru + 1) (by omega) (by omega), ei]
  have taken : u.testBit i = true → ∀ b, gX2_firstBringing_b41 (gX2_firstBringing_h3 N) (q_W A P v T) left n u la nn (ru + 1) i b = gX2_firstBringing_h3 N (q_W A P v T) left n u la nn (ru + 1) ((i + 1 : Nat) : Int) := by
    intro zt b
    unfold gX2_firstBringing_b41
    simp only [gX2_firstBringing_b79]
    rw [ei, c_has (by omega) (by omega), k_bds, if_pos zt, if_neg (by omega : ¬ (1 : Int) = 0)]
    split <;> rfl
  have far : gX2_firstBringing_b41 (gX2_firstBringing_h3 N) (q_W A P v T) left n u la nn (ru + 1) i 0 = gX2_firstBringing_h3 N (q_W A P v T) left n u la nn (ru + 1) ((i + 1 : Nat) : Int) := by
    unfold gX2_firstBringing_b41
    simp only [gX2_firstBringing_b79]
    rw [ei, if_pos trivial]
  rw [gX2_firstBringing_h3, q_Wn (by omega), c1, if_pos (by omega)]
  simp only [gX2_firstBringing_b36]
  by_cases zt : u.testBit i = true
  · have nb : ¬ e_br E to n u la ln ru left i := fun q => by have := q.2.1; rw [zt] at this; cases this
    refine ⟨fun q => absurd q nb, fun _ => ?_⟩
    rw [taken zt, taken zt]
    rcases hla with h | h
    · rw [if_pos h]
    · rw [if_neg (by omega), k_wr_of (x := la * 6) (by omega) (by omega), k_wr_of (x := la * 6 + i) (by omega) (by omega), if_pos (by omega)]
      split <;> rfl
  · have zf : u.testBit i = false := by simpa using zt
    rw [cell zf, far]
    rcases hla with h | h
    · rw [if_pos h]
      refine ⟨fun q => by rw [if_pos q.2.2], fun q => by rw [if_neg (fun y => q ⟨Or.inl (by omega), zf, y⟩)]⟩
    · have lai : la.toNat ≠ i := fun e => by rw [e] at h; exact absurd h.2.2 zt
      have ap := c9 la.toNat i (by omega) hi lai
      have e1 : ((la.toNat : Nat) : Int) = la := by omega
      rw [e1] at ap
      rw [if_neg (by omega), k_wr_of (x := la * 6) (by omega) (by omega), k_wr_of (x := la * 6 + i) (by omega) (by omega), if_pos (by omega), q_Wn (by omega), ap.1, hnn h.1]
      by_cases y : e_ap E la i ≤ n - ln
      · rw [if_pos y]
        refine ⟨fun q => by rw [if_pos q.2.2], fun q => by rw [if_neg (fun y2 => q ⟨Or.inr y, zf, y2⟩)]⟩
      · rw [if_neg y]
        refine ⟨fun q => ?_, fun _ => rfl⟩
        rcases q.1 with q1 | q1 <;> omega
theorem c_fb (c : e_cx A E to) {P : Int → Int} {fr v : Int} {T : Int → Int} (hv : 24 ≤ v) (ok : e_ok E to P (fr - 1) 1 0) {n la ln v5 ru : Int} {u : Nat} (fr0 : 0 ≤ fr) (hn : fr ≤ n ∧ n ≤ to) (hu : u < 2 ^ e_mn E) (hla : la = -1 ∨ (0 ≤ la ∧ la < e_mn E ∧ u.testBit la.toNat = true)) (h5 : 0 ≤ la → v5 = ln ∧ 0 ≤ ln ∧ ln < n) (hru : 0 ≤ ru ∧ ru ≤ e_pc u) (nn : Int) (hnn : 0 ≤ la → nn = n - ln) {k : Nat} (hk : n + k = to) (hl : 0 < e_V E (k + 1) n ((u, la, ln, ru) : e_s)) : gX2_firstBringing (q_W A P v T) (e_V E (k + 1) n ((u, la, ln, ru) : e_s)) n u la nn (ru + 1) = some (if e_o E k n ((u, la, ln, ru) : e_s) < e_mn E then ((e_o E k n ((u, la, ln, ru) : e_s) : Nat) : Int) else -1, q_W A P v T) := by
  have st := fun i hi N => c_fb1 (T := T) c hv ok (left := e_V E (k + 1) n ((u, la, ln, ru) : e_s)) fr0 hn hu hla h5 hru (i := i) hi N nn hnn
  have c1 := c.1
  have c2 := c.2.1
  have ek : (to - n).toNat = k := by omega
  have br : ∀ i, i < e_mn E → (e_br E to n u la ln ru (e_V E (k + 1) n ((u, la, ln, ru) : e_s)) i ↔ e_can E n ((u, la, ln, ru) : e_s) i = true ∧ e_vl E k n ((u, la, ln, ru) : e_s) i = e_V E (k + 1) n ((u, la, ln, ru) : e_s)) := by
    intro i hi
    constructor
    · intro q
      have q3 := q.2.2
      unfold e_g at q3
      by_cases y : ru + 1 ≤ e_ro E ∧ e_cl E i n = 0
      · rw [if_pos y, ek] at q3
        exact ⟨e_canI (s := ((u, la, ln, ru) : e_s)) q.2.1 y.1 q.1 y.2, q3⟩
      · rw [if_neg y] at q3; omega
    · intro q
      have q1 := e_canU q.1
      refine ⟨q1.2.2.1, q1.1, ?_⟩
      unfold e_g
      rw [if_pos ⟨q1.2.1, q1.2.2.2⟩, ek]
      exact q.2
  have lp1 : ∀ (i0 : Nat), i0 < e_mn E → e_br E to n u la ln ru (e_V E (k + 1) n ((u, la, ln, ru) : e_s)) i0 → ∀ (d N i : Nat), i + d = i0 → (∀ j, i ≤ j → j < i0 → ¬ e_br E to n u la ln ru (e_V E (k + 1) n ((u, la, ln, ru) : e_s)) j) → gX2_firstBringing_h3 (N + d + 1) (q_W A P v T) (e_V E (k + 1) n ((u, la, ln, ru) : e_s)) n u la nn (ru + 1) i = some ((i0 : Int), q_W A P v T) := by
    intro i0 h0 b0 d
    induction d with
    | zero =>
      intro N i e _
      have : i = i0 := by omega
      subst this
      exact (st i h0 (N + 0)).1 b0
    | succ d ih =>
      intro N i e nb
      show gX2_firstBringing_h3 ((N + d + 1) + 1) (q_W A P v T) _ n u la nn (ru + 1) i = _
      rw [(st i (by omega) (N + d + 1)).2 (nb i (by omega) (by omega))]
      exact ih N (i + 1) (by omega) (fun j a b => nb j (by omega) b)
  have lp0 : (∀ j, j < e_mn E → ¬ e_br E to n u la ln ru (e_V E (k + 1) n ((u, la, ln, ru) : e_s)) j) → ∀ (d N i : Nat), i + d = e_mn E → gX2_firstBringing_h3 (N + d + 1) (q_W A P v T) (e_V E (k + 1) n ((u, la, ln, ru) : e_s)) n u la nn (ru + 1) i = some (-1, q_W A P v T) := by
    intro nb d
    induction d with
    | zero =>
      intro N i e
      rw [gX2_firstBringing_h3, q_Wn (by omega), c1, if_neg (by omega)]
    | succ d ih =>
      intro N i e
      show gX2_firstBringing_h3 ((N + d + 1) + 1) (q_W A P v T) _ n u la nn (ru + 1) i = _
      rw [(st i (by omega) (N + d + 1)).2 (nb i (by omega))]
      exact ih N (i + 1) (by omega)
  unfold gX2_firstBringing gX2_firstBringing_b0
  rcases e_oX (e_hp1 c) (k := k) (n := n) (s := ((u, la, ln, ru) : e_s)) with ⟨a, b, d⟩ | ⟨a, b, d, f⟩
  · rw [if_neg (by omega)]
    obtain ⟨N, hN⟩ := p_FU (e_mn E + 1) (by have : k_FU = 1073741824 := rfl; omega)
    rw [hN]
    exact lp0 (fun j hj q => by
      have q2 := (br j hj).1 q
      have := d j hj q2.1
      omega) (e_mn E) N 0 (by omega)
  · rw [if_pos a]
    obtain ⟨N, hN⟩ := p_FU (e_o E k n ((u, la, ln, ru) : e_s) + 1) (by have : k_FU = 1073741824 := rfl; omega)
    rw [hN]
    exact lp1 _ a ((br _ a).2 ⟨b, d.symm⟩) _ N 0 (by omega) (fun j _ hj q => by
      have q2 := (br j (by omega)).1 q
      have := f j hj q2.1
      omega)
end
