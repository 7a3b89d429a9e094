/-! the constructors: pictures in the making -/
section
variable {A : k_H} {a b i j v : Int} {k l : Nat}
theorem n_mk : k_N (k_mk A k l) = k_N A + 1 := rfl
theorem n_wt : k_N (k_wt A a i v) = k_N A := rfl
theorem u_mk : k_U (k_mk A k l) = k_U A + 1 := rfl
theorem u_wt : k_U (k_wt A a i v) = k_U A := rfl
theorem t_mk9 : k_T (k_mk A k l) = k_T A + l := rfl
theorem t_wt9 : k_T (k_wt A a i v) = k_T A := rfl
theorem d_mk : k_kd (k_mk A k l) b = if b = (k_N A : Int) then (k, l) else k_kd A b := rfl
theorem d_wt : k_kd (k_wt A a i v) b = k_kd A b := rfl
theorem r_mk : k_rd (k_mk A k l) b j = if b = (k_N A : Int) then k_dft k j else k_rd A b j := rfl
theorem s_mk {sc : Nat × (Nat → Int32)} (h : k_sc A sc) : k_sc (k_mk A k l) sc := ⟨by rw [d_mk, if_neg (by omega)]; exact h.1, fun j hj => by rw [r_mk, if_neg (by omega)]; exact h.2 j hj⟩
theorem s_wt {sc : Nat × (Nat → Int32)} (h : k_sc A sc) (q : 0 ≤ a) : k_sc (k_wt A a i v) sc := ⟨by rw [d_wt]; exact h.1, fun j hj => by rw [p_rwn (by omega)]; exact h.2 j hj⟩
theorem tw_A (f : Int → Int) : ∀ m : Nat, (tw_w A a i f m).1 = A.1 ∧ (tw_w A a i f m).2.1 = A.2.1 := by
  intro m
  induction m with
  | zero => exact ⟨rfl, rfl⟩
  | succ m ih => exact ih
theorem n_tw {f : Int → Int} {m : Nat} : k_N (tw_w A a i f m) = k_N A := by unfold k_N; rw [(tw_A f m).1]
theorem u_tw {f : Int → Int} {m : Nat} : k_U (tw_w A a i f m) = k_U A := by unfold k_U; rw [(tw_A f m).1]
theorem t_tw9 {f : Int → Int} {m : Nat} : k_T (tw_w A a i f m) = k_T A := by unfold k_T; rw [(tw_A f m).1]
theorem d_tw {f : Int → Int} {m : Nat} : k_kd (tw_w A a i f m) b = k_kd A b := by unfold k_kd; rw [(tw_A f m).2]
theorem s_tw {sc : Nat × (Nat → Int32)} {f : Int → Int} {m : Nat} (h : k_sc A sc) (q : 0 ≤ a) : k_sc (tw_w A a i f m) sc := ⟨by rw [d_tw]; exact h.1, fun j hj => by rw [tw_n (by omega)]; exact h.2 j hj⟩
end
def i_sp (a i : Int) : Int := if 72 ≤ a ∧ a < 120 ∧ ((a - 72) % 8 = 3 ∨ (a - 72) % 8 = 4) ∧ 0 ≤ i ∧ i < 14 then -1 else if 72 ≤ a ∧ a < 120 ∧ (a - 72) % 8 = 0 ∧ (i = 8 ∨ i = 9) then 1 else 0
def i_c (a i : Int) : Int := if k_etag (k_shp a).1 i = 1 then k_pv a i else i_sp a i
theorem i_cR {a i : Int} {k len : Nat} (h : k_shp a = (k, len)) (ht : k_etag k i = 1) : i_c a i = k_pv a i := by unfold i_c; rw [h, if_pos ht]
theorem i_c0 {a i : Int} {k len : Nat} (h : k_shp a = (k, len)) (ht : k_etag k i = 0) : i_c a i = i_sp a i := by unfold i_c; rw [h, if_neg (by show ¬ k_etag k i = 1; omega)]
theorem i_sp0 {a i : Int} (h : a < 72 ∨ 120 ≤ a) : i_sp a i = 0 := by unfold i_sp; rw [if_neg (by omega), if_neg (by omega)]
theorem i_d0 {k : Nat} {i : Int} (h : k_etag k i = 0) : k_dft k i = 0 := by unfold k_dft; rw [h]; rfl
theorem i_row {k : Nat} (h : k = 20 ∨ k = 21) (i : Int) : k_etag k i = 0 := by rcases h with h | h <;> subst h <;> rfl
theorem i_lng (i : Int) : k_etag 22 i = 2 := rfl
theorem i_big {k : Nat} (hk : k < 10) {m : Nat} (hm : 43 ≤ m) : k_etag k m = 0 := by
  unfold k_etag
  rw [if_pos (by omega), Int.toNat_natCast, List.getD_eq_getElem?_getD (l := k_ftab.getD k [])]
  have : (k_ftab.getD k []).length ≤ 43 := by
    have : ∀ k : Nat, k < 10 → (k_ftab.getD k []).length ≤ 43 := by decide +kernel
    exact this k hk
  rw [List.getElem?_eq_none (by omega)]
  rfl
theorem i_t0 {i : Int} (i0 : 0 ≤ i) : i ≠ 0 → k_etag 0 i = 0 := by
  intro h0
  obtain ⟨m, rfl⟩ : ∃ m : Nat, i = m := ⟨i.toNat, by omega⟩
  by_cases hm : m < 43
  · have q : ∀ m : Nat, m < 43 → m ∈ ([0] : List Nat) ∨ k_etag 0 (m : Int) = 0 := by decide +kernel
    rcases q m hm with q | q
    · simp only [List.mem_cons, List.not_mem_nil, or_false] at q
      omega
    · exact q
  · exact i_big (by omega) (by omega)
theorem i_t1 {i : Int} (i0 : 0 ≤ i) : i ≠ 0 → i ≠ 1 → k_etag 1 i = 0 := by
  intro h0 h1
  obtain ⟨m, rfl⟩ : ∃ m : Nat, i = m := ⟨i.toNat, by omega⟩
  by_cases hm : m < 43
  · have q : ∀ m : Nat, m < 43 → m ∈ ([0, 1] : List Nat) ∨ k_etag 1 (m : Int) = 0 := by decide +kernel
    rcases q m hm with q | q
    · simp only [List.mem_cons, List.not_mem_nil, or_false] at q
      omega
    · exact q
  · exact i_big (by omega) (by omega)
theorem i_t2 {i : Int} (i0 : 0 ≤ i) : i ≠ 0 → i ≠ 1 → i ≠ 2 → i ≠ 3 → i ≠ 4 → k_etag 2 i = 0 := by
  intro h0 h1 h2 h3 h4
  obtain ⟨m, rfl⟩ : ∃ m : Nat, i = m := ⟨i.toNat, by omega⟩
  by_cases hm : m < 43
  · have q : ∀ m : Nat, m < 43 → m ∈ ([0, 1, 2, 3, 4] : List Nat) ∨ k_etag 2 (m : Int) = 0 := by decide +kernel
    rcases q m hm with q | q
    · simp only [List.mem_cons, List.not_mem_nil, or_false] at q
      omega
    · exact q
  · exact i_big (by omega) (by omega)
theorem i_t3 {i : Int} (i0 : 0 ≤ i) : i ≠ 0 → i ≠ 1 → i ≠ 2 → i ≠ 3 → i ≠ 4 → i ≠ 5 → k_etag 3 i = 0 := by
  intro h0 h1 h2 h3 h4 h5
  obtain ⟨m, rfl⟩ : ∃ m : Nat, i = m := ⟨i.toNat, by omega⟩
  by_cases hm : m < 43
  · have q : ∀ m : Nat, m < 43 → m ∈ ([0, 1, 2, 3, 4, 5] : List Nat) ∨ k_etag 3 (m : Int) = 0 := by decide +kernel
    rcases q m hm with q | q
    · simp only [List.mem_cons, List.not_mem_nil, or_false] at q
      omega
    · exact q
  · exact i_big (by omega) (by omega)
theorem i_t4 {i : Int} (i0 : 0 ≤ i) : i ≠ 0 → i ≠ 1 → i ≠ 2 → i ≠ 3 → k_etag 4 i = 0 := by
  intro h0 h1 h2 h3
  obtain ⟨m, rfl⟩ : ∃ m : Nat, i = m := ⟨i.toNat, by omega⟩
  by_cases hm : m < 43
  · have q : ∀ m : Nat, m < 43 → m ∈ ([0, 1, 2, 3] : List Nat) ∨ k_etag 4 (m : Int) = 0 := by decide +kernel
    rcases q m hm with q | q
    · simp only [List.mem_cons, List.not_mem_nil, or_false] at q
      omega
    · exact q
  · exact i_big (by omega) (by omega)
theorem i_t5 {i : Int} (i0 : 0 ≤ i) : i ≠ 0 → k_etag 5 i = 0 := by
  intro h0
  obtain ⟨m, rfl⟩ : ∃ m : Nat, i = m := ⟨i.toNat, by omega⟩
  by_cases hm : m < 43
  · have q : ∀ m : Nat, m < 43 → m ∈ ([0] : List Nat) ∨ k_etag 5 (m : Int) = 0 := by decide +kernel
    rcases q m hm with q | q
    · simp only [List.mem_cons, List.not_mem_nil, or_false] at q
      omega
    · exact q
  · exact i_big (by omega) (by omega)
theorem i_t6 {i : Int} (i0 : 0 ≤ i) : i ≠ 0 → i ≠ 1 → k_etag 6 i = 0 := by
  intro h0 h1
  obtain ⟨m, rfl⟩ : ∃ m : Nat, i = m := ⟨i.toNat, by omega⟩
  by_cases hm : m < 43
  · have q : ∀ m : Nat, m < 43 → m ∈ ([0, 1] : List Nat) ∨ k_etag 6 (m : Int) = 0 := by decide +kernel
    rcases q m hm with q | q
    · simp only [List.mem_cons, List.not_mem_nil, or_false] at q
      omega
    · exact q
  · exact i_big (by omega) (by omega)
theorem i_t7 {i : Int} (i0 : 0 ≤ i) : i ≠ 0 → i ≠ 4 → k_etag 7 i = 0 := by
  intro h0 h4
  obtain ⟨m, rfl⟩ : ∃ m : Nat, i = m := ⟨i.toNat, by omega⟩
  by_cases hm : m < 43
  · have q : ∀ m : Nat, m < 43 → m ∈ ([0, 4] : List Nat) ∨ k_etag 7 (m : Int) = 0 := by decide +kernel
    rcases q m hm with q | q
    · simp only [List.mem_cons, List.not_mem_nil, or_false] at q
      omega
    · exact q
  · exact i_big (by omega) (by omega)
theorem i_t9 {i : Int} (i0 : 0 ≤ i) : i ≠ 1 → i ≠ 5 → i ≠ 6 → i ≠ 7 → i ≠ 8 → i ≠ 9 → i ≠ 10 → i ≠ 11 → i ≠ 12 → i ≠ 13 → i ≠ 14 → i ≠ 15 → i ≠ 16 → i ≠ 17 → i ≠ 18 → i ≠ 19 → i ≠ 22 → i ≠ 23 → i ≠ 24 → i ≠ 25 → i ≠ 26 → i ≠ 27 → i ≠ 28 → i ≠ 29 → i ≠ 30 → i ≠ 31 → i ≠ 32 → i ≠ 33 → i ≠ 34 → i ≠ 35 → i ≠ 42 → k_etag 9 i = 0 := by
  intro h1 h5 h6 h7 h8 h9 h10 h11 h12 h13 h14 h15 h16 h17 h18 h19 h22 h23 h24 h25 h26 h27 h28 h29 h30 h31 h32 h33 h34 h35 h42
  obtain ⟨m, rfl⟩ : ∃ m : Nat, i = m := ⟨i.toNat, by omega⟩
  by_cases hm : m < 43
  · have q : ∀ m : Nat, m < 43 → m ∈ ([1, 5, 6, 7, 8, 9, 10, 11, 12, 13, 14, 15, 16, 17, 18, 19, 22, 23, 24, 25, 26, 27, 28, 29, 30, 31, 32, 33, 34, 35, 42] : List Nat) ∨ k_etag 9 (m : Int) = 0 := by decide +kernel
    rcases q m hm with q | q
    · simp only [List.mem_cons, List.not_mem_nil, or_false] at q
      omega
    · exact q
  · exact i_big (by omega) (by omega)
/-- a picture of n cells, all laid out but the first object and the two rows of objects -/
def i_D (sc : Nat × (Nat → Int32)) (n t : Nat) (j h s : Int) (A : k_H) : Prop := k_N A = n ∧ k_U A = n ∧ k_T A = t ∧ (∀ a : Int, 0 ≤ a → a < n → k_kd A a = k_shp a) ∧ k_sc A sc ∧ (∀ a i : Int, 0 ≤ a → a < n → 0 ≤ i → a ≠ 0 → a ≠ 3 → a ≠ 4 → k_rd A a i = i_c a i) ∧ (∀ i : Int, 0 ≤ i → k_rd A 0 i = if i < j then k_pv 0 i else k_dft 8 i) ∧ (3 < n → ∀ i : Int, 0 ≤ i → k_rd A 3 i = if i < h then 24 + 4 * i else -1) ∧ (4 < n → ∀ i : Int, 0 ≤ i → k_rd A 4 i = if i < s then 72 + 8 * i else -1)
theorem i_a0 {A : k_H} {v L : Int} {N M : Nat} (hN : k_N A = N) (hv : 0 ≤ v ∧ v < N) (hk : (k_kd A v).1 = 0) (hM : L = (M : Int)) (hL : M ≤ 1000) : fX0_init A v L = some (0, k_wt (k_mk A 21 M) v 0 N) := by
  subst hM
  unfold fX0_init fX0_init_b0
  have e : max 0 (M : Int) = M := by omega
  rw [if_pos hv.1, e, if_pos (by omega), p_lt, Int.toNat_natCast, if_pos ⟨hv.1, by rw [n_mk, hN]; omega, by rw [d_mk, hN, if_neg (by omega)]; exact hk⟩, p_lt, hN]
theorem i_a5 {A : k_H} {v : Int} {N : Nat} (hN : k_N A = N) (hv : 0 ≤ v ∧ v < N) (hk : (k_kd A v).1 = 5) : fX5_init A v = some (0, k_wt (k_mk A 21 200) v 0 N) := by
  unfold fX5_init fX5_init_b0
  rw [if_pos hv.1, p_lt, if_pos ⟨hv.1, by rw [n_mk, hN]; omega, by rw [d_mk, hN, if_neg (by omega)]; exact hk⟩, p_lt, hN]
theorem i_a6 {A : k_H} {v : Int} {N : Nat} (hN : k_N A = N) (hv : 0 ≤ v ∧ v < N) (hk : (k_kd A v).1 = 6) : fX6_init A v = some (0, k_wt (k_mk (k_wt (k_mk A 21 3) v 0 N) 21 3) v 1 ((N + 1 : Nat) : Int)) := by
  unfold fX6_init fX6_init_b0
  rw [if_pos hv.1, p_lt, if_pos ⟨hv.1, by rw [n_mk, hN]; omega, by rw [d_mk, hN, if_neg (by omega)]; exact hk⟩, p_lt, p_lt, if_pos ⟨hv.1, by rw [n_mk, n_wt, n_mk, hN]; omega, by rw [d_mk, n_wt, n_mk, hN, if_neg (by omega), d_wt, d_mk, hN, if_neg (by omega)]; exact hk⟩, p_lt, n_wt, n_mk, hN]
theorem i_fill {A : k_H} {v : Int} {N : Nat} (hN : k_N A = N) (hv : 0 ≤ v ∧ v < N) (hk : k_kd A v = (21, 14)) : fJ7_fill_53178 A v (-1) = some (0, tw_w A v 0 (fun _ => -1) 14) := by
  have h2 : (k_kd A v).2 = 14 := by rw [hk]
  have st := p_it (fun N (p : k_H × Int) => fJ7_fill_53178_h5 N p.1 v (-1) p.2 14) (fun k => (tw_w A v 0 (fun _ => -1) k, (k : Int))) 14 (fun M k hkk => by
    show fJ7_fill_53178_h5 (M + 1) (tw_w A v 0 (fun _ => -1) k) v (-1) k 14 = fJ7_fill_53178_h5 M (k_wt (tw_w A v 0 (fun _ => -1) k) v (0 + k) (-1)) v (-1) ((k + 1 : Nat) : Int) 14
    rw [fJ7_fill_53178_h5, if_pos (by omega), if_pos ⟨hv.1, by rw [n_tw, hN]; exact hv.2, by rw [d_tw, hk], by omega, by rw [d_tw, hk]; show (k : Int) < ((14 : Nat) : Int); omega⟩, p_lt, k_wr_of (x := (k : Int) + 1) (by omega) (by omega), Int.zero_add]
    rfl)
  obtain ⟨M, hM⟩ := p_FU 15 (by decide)
  have e : M + 15 = (M + 1) + 14 := rfl
  unfold fJ7_fill_53178 fJ7_fill_53178_b0
  rw [if_pos ⟨hv.1, by rw [hN]; exact hv.2, by rw [hk]⟩, h2, if_pos (by omega), hM, e]
  refine (st (M + 1)).trans ?_
  show fJ7_fill_53178_h5 (M + 1) (tw_w A v 0 (fun _ => -1) 14) v (-1) 14 14 = _
  rw [fJ7_fill_53178_h5, if_neg (by omega)]
set_option maxHeartbeats 8000000 in
set_option maxRecDepth 20000 in
theorem i_X3 {sc : Nat × (Nat → Int32)} {n t : Nat} {j h s : Int} {A : k_H} (d : i_D sc n t j h s A) (n1 : 1 ≤ n) (n34 : 4 < n) (sq : n + 7 ≤ 72 ∨ 120 ≤ n) (s0 : k_shp (n : Int) = (3, 9)) (s1 : k_shp ((n : Int) + 1) = (21, 4)) (s2 : k_shp ((n : Int) + 2) = (21, 8)) (s3 : k_shp ((n : Int) + 3) = (21, 9)) (s4 : k_shp ((n : Int) + 4) = (21, 9)) (s5 : k_shp ((n : Int) + 5) = (21, 8)) (s6 : k_shp ((n : Int) + 6) = (21, 8)) : ∃ A', fX3_init (k_mk A 3 9) n = some (0, A') ∧ i_D sc (n + 7) (t + 55) j h s A' := by
  obtain ⟨hN, hU, hT, hk, hs, hr, h0, h3, h4⟩ := d
  unfold fX3_init fX3_init_b0
  rw [if_pos (by omega)]
  rw [p_lt, if_pos ⟨by omega, by simp only [n_wt, n_mk, n_tw, hN]; omega, by simp only [d_wt, d_mk, d_tw, n_wt, n_mk, n_tw, hN]; repeat (first | rw [if_pos trivial] | rw [if_neg not_false] | rw [if_neg (by omega)] | rw [if_pos (by omega)])⟩, p_lt]
  rw [p_lt, if_pos ⟨by omega, by simp only [n_wt, n_mk, n_tw, hN]; omega, by simp only [d_wt, d_mk, d_tw, n_wt, n_mk, n_tw, hN]; repeat (first | rw [if_pos trivial] | rw [if_neg not_false] | rw [if_neg (by omega)] | rw [if_pos (by omega)])⟩, p_lt]
  rw [p_lt, if_pos ⟨by omega, by simp only [n_wt, n_mk, n_tw, hN]; omega, by simp only [d_wt, d_mk, d_tw, n_wt, n_mk, n_tw, hN]; repeat (first | rw [if_pos trivial] | rw [if_neg not_false] | rw [if_neg (by omega)] | rw [if_pos (by omega)])⟩, p_lt]
  rw [p_lt, if_pos ⟨by omega, by simp only [n_wt, n_mk, n_tw, hN]; omega, by simp only [d_wt, d_mk, d_tw, n_wt, n_mk, n_tw, hN]; repeat (first | rw [if_pos trivial] | rw [if_neg not_false] | rw [if_neg (by omega)] | rw [if_pos (by omega)])⟩, p_lt]
  rw [p_lt, if_pos ⟨by omega, by simp only [n_wt, n_mk, n_tw, hN]; omega, by simp only [d_wt, d_mk, d_tw, n_wt, n_mk, n_tw, hN]; repeat (first | rw [if_pos trivial] | rw [if_neg not_false] | rw [if_neg (by omega)] | rw [if_pos (by omega)])⟩, p_lt]
  rw [p_lt, if_pos ⟨by omega, by simp only [n_wt, n_mk, n_tw, hN]; omega, by simp only [d_wt, d_mk, d_tw, n_wt, n_mk, n_tw, hN]; repeat (first | rw [if_pos trivial] | rw [if_neg not_false] | rw [if_neg (by omega)] | rw [if_pos (by omega)])⟩, p_lt]
  simp only [n_wt, n_mk, n_tw, hN]
  refine ⟨_, rfl, ?_, ?_, ?_, fun a a0 a1 => ?_, ?_, fun a i a0 a1 i0 x0 x3 x4 => ?_, fun i i0 => ?_, fun q3 i i0 => ?_, fun q4 i i0 => ?_⟩
  · simp only [n_wt, n_mk, n_tw, hN]
  · simp only [u_wt, u_mk, u_tw, hU]
  · simp only [t_wt9, t_mk9, t_tw9, hT]
  · simp only [d_wt, d_mk, d_tw, n_wt, n_mk, n_tw, hN]
    by_cases z : a < (n : Int)
    · repeat (first | rw [if_pos trivial] | rw [if_neg not_false] | rw [if_neg (by omega)] | rw [if_pos (by omega)])
      exact hk a a0 z
    · have w : a = (n : Int) ∨ a = (n : Int) + 1 ∨ a = (n : Int) + 2 ∨ a = (n : Int) + 3 ∨ a = (n : Int) + 4 ∨ a = (n : Int) + 5 ∨ a = (n : Int) + 6 := by omega
      rcases w with w | w | w | w | w | w | w <;> subst w
      · repeat (first | rw [if_pos trivial] | rw [if_neg not_false] | rw [if_neg (by omega)] | rw [if_pos (by omega)])
        exact s0.symm
      · repeat (first | rw [if_pos trivial] | rw [if_neg not_false] | rw [if_neg (by omega)] | rw [if_pos (by omega)])
        exact s1.symm
      · repeat (first | rw [if_pos trivial] | rw [if_neg not_false] | rw [if_neg (by omega)] | rw [if_pos (by omega)])
        exact s2.symm
      · repeat (first | rw [if_pos trivial] | rw [if_neg not_false] | rw [if_neg (by omega)] | rw [if_pos (by omega)])
        exact s3.symm
      · repeat (first | rw [if_pos trivial] | rw [if_neg not_false] | rw [if_neg (by omega)] | rw [if_pos (by omega)])
        exact s4.symm
      · repeat (first | rw [if_pos trivial] | rw [if_neg not_false] | rw [if_neg (by omega)] | rw [if_pos (by omega)])
        exact s5.symm
      · repeat (first | rw [if_pos trivial] | rw [if_neg not_false] | rw [if_neg (by omega)] | rw [if_pos (by omega)])
        exact s6.symm
  · exact (s_wt (s_mk (s_wt (s_mk (s_wt (s_mk (s_wt (s_mk (s_wt (s_mk (s_wt (s_mk (s_mk hs)) (by omega))) (by omega))) (by omega))) (by omega))) (by omega))) (by omega))
  · by_cases z : a < (n : Int)
    · rw [← hr a i a0 z i0 x0 x3 x4]
      simp only [p_rw, r_mk, tw_r, n_wt, n_mk, n_tw, hN, true_and]
      repeat (first | rw [if_pos trivial] | rw [if_neg not_false] | rw [if_neg (by omega)] | rw [if_pos (by omega)])
    · have w : a = (n : Int) ∨ a = (n : Int) + 1 ∨ a = (n : Int) + 2 ∨ a = (n : Int) + 3 ∨ a = (n : Int) + 4 ∨ a = (n : Int) + 5 ∨ a = (n : Int) + 6 := by omega
      rcases w with w | w | w | w | w | w | w <;> subst w
      · simp only [p_rw, r_mk, tw_r, n_wt, n_mk, n_tw, hN, true_and]
        by_cases y0 : i = 0
        · subst y0
          rw [i_cR s0 (by decide +kernel)]
          have pv : k_pv ((n : Int)) 0 = (n : Int) + 1 := by unfold k_pv; rw [s0]; rfl
          rw [pv]
          repeat (first | rw [if_pos trivial] | rw [if_neg not_false] | rw [if_neg (by omega)] | rw [if_pos (by omega)])
          omega
        by_cases y1 : i = 1
        · subst y1
          rw [i_cR s0 (by decide +kernel)]
          have pv : k_pv ((n : Int)) 1 = (n : Int) + 2 := by unfold k_pv; rw [s0]; rfl
          rw [pv]
          repeat (first | rw [if_pos trivial] | rw [if_neg not_false] | rw [if_neg (by omega)] | rw [if_pos (by omega)])
          omega
        by_cases y2 : i = 2
        · subst y2
          rw [i_cR s0 (by decide +kernel)]
          have pv : k_pv ((n : Int)) 2 = (n : Int) + 3 := by unfold k_pv; rw [s0]; rfl
          rw [pv]
          repeat (first | rw [if_pos trivial] | rw [if_neg not_false] | rw [if_neg (by omega)] | rw [if_pos (by omega)])
          omega
        by_cases y3 : i = 3
        · subst y3
          rw [i_cR s0 (by decide +kernel)]
          have pv : k_pv ((n : Int)) 3 = (n : Int) + 4 := by unfold k_pv; rw [s0]; rfl
          rw [pv]
          repeat (first | rw [if_pos trivial] | rw [if_neg not_false] | rw [if_neg (by omega)] | rw [if_pos (by omega)])
          omega
        by_cases y4 : i = 4
        · subst y4
          rw [i_cR s0 (by decide +kernel)]
          have pv : k_pv ((n : Int)) 4 = (n : Int) + 5 := by unfold k_pv; rw [s0]; rfl
          rw [pv]
          repeat (first | rw [if_pos trivial] | rw [if_neg not_false] | rw [if_neg (by omega)] | rw [if_pos (by omega)])
          omega
        by_cases y5 : i = 5
        · subst y5
          rw [i_cR s0 (by decide +kernel)]
          have pv : k_pv ((n : Int)) 5 = (n : Int) + 6 := by unfold k_pv; rw [s0]; rfl
          rw [pv]
          repeat (first | rw [if_pos trivial] | rw [if_neg not_false] | rw [if_neg (by omega)] | rw [if_pos (by omega)])
          omega
        have tg := i_t3 i0 y0 y1 y2 y3 y4 y5
        rw [i_c0 s0 tg]
        rw [i_sp0 (by omega)]
        repeat (first | rw [if_pos trivial] | rw [if_neg not_false] | rw [if_neg (by omega)] | rw [if_pos (by omega)])
        exact i_d0 tg
      · simp only [p_rw, r_mk, tw_r, n_wt, n_mk, n_tw, hN, true_and]
        rw [i_c0 s1 (i_row (by omega) i), i_sp0 (by omega)]
        repeat (first | rw [if_pos trivial] | rw [if_neg not_false] | rw [if_neg (by omega)] | rw [if_pos (by omega)])
        exact i_d0 (i_row (by omega) i)
      · simp only [p_rw, r_mk, tw_r, n_wt, n_mk, n_tw, hN, true_and]
        rw [i_c0 s2 (i_row (by omega) i), i_sp0 (by omega)]
        repeat (first | rw [if_pos trivial] | rw [if_neg not_false] | rw [if_neg (by omega)] | rw [if_pos (by omega)])
        exact i_d0 (i_row (by omega) i)
      · simp only [p_rw, r_mk, tw_r, n_wt, n_mk, n_tw, hN, true_and]
        rw [i_c0 s3 (i_row (by omega) i), i_sp0 (by omega)]
        repeat (first | rw [if_pos trivial] | rw [if_neg not_false] | rw [if_neg (by omega)] | rw [if_pos (by omega)])
        exact i_d0 (i_row (by omega) i)
      · simp only [p_rw, r_mk, tw_r, n_wt, n_mk, n_tw, hN, true_and]
        rw [i_c0 s4 (i_row (by omega) i), i_sp0 (by omega)]
        repeat (first | rw [if_pos trivial] | rw [if_neg not_false] | rw [if_neg (by omega)] | rw [if_pos (by omega)])
        exact i_d0 (i_row (by omega) i)
      · simp only [p_rw, r_mk, tw_r, n_wt, n_mk, n_tw, hN, true_and]
        rw [i_c0 s5 (i_row (by omega) i), i_sp0 (by omega)]
        repeat (first | rw [if_pos trivial] | rw [if_neg not_false] | rw [if_neg (by omega)] | rw [if_pos (by omega)])
        exact i_d0 (i_row (by omega) i)
      · simp only [p_rw, r_mk, tw_r, n_wt, n_mk, n_tw, hN, true_and]
        rw [i_c0 s6 (i_row (by omega) i), i_sp0 (by omega)]
        repeat (first | rw [if_pos trivial] | rw [if_neg not_false] | rw [if_neg (by omega)] | rw [if_pos (by omega)])
        exact i_d0 (i_row (by omega) i)
  · rw [← h0 i i0]
    simp only [p_rw, r_mk, tw_r, n_wt, n_mk, n_tw, hN, true_and]
    repeat (first | rw [if_pos trivial] | rw [if_neg not_false] | rw [if_neg (by omega)] | rw [if_pos (by omega)])
  · rw [← h3 (by omega) i i0]
    simp only [p_rw, r_mk, tw_r, n_wt, n_mk, n_tw, hN, true_and]
    repeat (first | rw [if_pos trivial] | rw [if_neg not_false] | rw [if_neg (by omega)] | rw [if_pos (by omega)])
  · rw [← h4 (by omega) i i0]
    simp only [p_rw, r_mk, tw_r, n_wt, n_mk, n_tw, hN, true_and]
    repeat (first | rw [if_pos trivial] | rw [if_neg not_false] | rw [if_neg (by omega)] | rw [if_pos (by omega)])
set_option maxHeartbeats 8000000 in
set_option maxRecDepth 20000 in
theorem i_X2 {sc : Nat × (Nat → Int32)} {n t : Nat} {j h s : Int} {A : k_H} (d : i_D sc n t j h s A) (n1 : 1 ≤ n) (n34 : 4 < n) (sq : n + 6 ≤ 72 ∨ 120 ≤ n) (s0 : k_shp (n : Int) = (2, 10)) (s1 : k_shp ((n : Int) + 1) = (21, 6)) (s2 : k_shp ((n : Int) + 2) = (21, 6)) (s3 : k_shp ((n : Int) + 3) = (21, 36)) (s4 : k_shp ((n : Int) + 4) = (21, 6)) (s5 : k_shp ((n : Int) + 5) = (22, 5376)) : ∃ A', fX2_init (k_mk A 2 10) n = some (0, A') ∧ i_D sc (n + 6) (t + 5440) j h s A' := by
  obtain ⟨hN, hU, hT, hk, hs, hr, h0, h3, h4⟩ := d
  unfold fX2_init fX2_init_b0
  rw [if_pos (by omega)]
  rw [p_lt, if_pos ⟨by omega, by simp only [n_wt, n_mk, n_tw, hN]; omega, by simp only [d_wt, d_mk, d_tw, n_wt, n_mk, n_tw, hN]; repeat (first | rw [if_pos trivial] | rw [if_neg not_false] | rw [if_neg (by omega)] | rw [if_pos (by omega)])⟩, p_lt]
  rw [p_lt, if_pos ⟨by omega, by simp only [n_wt, n_mk, n_tw, hN]; omega, by simp only [d_wt, d_mk, d_tw, n_wt, n_mk, n_tw, hN]; repeat (first | rw [if_pos trivial] | rw [if_neg not_false] | rw [if_neg (by omega)] | rw [if_pos (by omega)])⟩, p_lt]
  rw [p_lt, if_pos ⟨by omega, by simp only [n_wt, n_mk, n_tw, hN]; omega, by simp only [d_wt, d_mk, d_tw, n_wt, n_mk, n_tw, hN]; repeat (first | rw [if_pos trivial] | rw [if_neg not_false] | rw [if_neg (by omega)] | rw [if_pos (by omega)])⟩, p_lt]
  rw [p_lt, if_pos ⟨by omega, by simp only [n_wt, n_mk, n_tw, hN]; omega, by simp only [d_wt, d_mk, d_tw, n_wt, n_mk, n_tw, hN]; repeat (first | rw [if_pos trivial] | rw [if_neg not_false] | rw [if_neg (by omega)] | rw [if_pos (by omega)])⟩, p_lt]
  rw [p_lt, if_pos ⟨by omega, by simp only [n_wt, n_mk, n_tw, hN]; omega, by simp only [d_wt, d_mk, d_tw, n_wt, n_mk, n_tw, hN]; repeat (first | rw [if_pos trivial] | rw [if_neg not_false] | rw [if_neg (by omega)] | rw [if_pos (by omega)])⟩, p_lt]
  simp only [n_wt, n_mk, n_tw, hN]
  refine ⟨_, rfl, ?_, ?_, ?_, fun a a0 a1 => ?_, ?_, fun a i a0 a1 i0 x0 x3 x4 => ?_, fun i i0 => ?_, fun q3 i i0 => ?_, fun q4 i i0 => ?_⟩
  · simp only [n_wt, n_mk, n_tw, hN]
  · simp only [u_wt, u_mk, u_tw, hU]
  · simp only [t_wt9, t_mk9, t_tw9, hT]
  · simp only [d_wt, d_mk, d_tw, n_wt, n_mk, n_tw, hN]
    by_cases z : a < (n : Int)
    · repeat (first | rw [if_pos trivial] | rw [if_neg not_false] | rw [if_neg (by omega)] | rw [if_pos (by omega)])
      exact hk a a0 z
    · have w : a = (n : Int) ∨ a = (n : Int) + 1 ∨ a = (n : Int) + 2 ∨ a = (n : Int) + 3 ∨ a = (n : Int) + 4 ∨ a = (n : Int) + 5 := by omega
      rcases w with w | w | w | w | w | w <;> subst w
      · repeat (first | rw [if_pos trivial] | rw [if_neg not_false] | rw [if_neg (by omega)] | rw [if_pos (by omega)])
        exact s0.symm
      · repeat (first | rw [if_pos trivial] | rw [if_neg not_false] | rw [if_neg (by omega)] | rw [if_pos (by omega)])
        exact s1.symm
      · repeat (first | rw [if_pos trivial] | rw [if_neg not_false] | rw [if_neg (by omega)] | rw [if_pos (by omega)])
        exact s2.symm
      · repeat (first | rw [if_pos trivial] | rw [if_neg not_false] | rw [if_neg (by omega)] | rw [if_pos (by omega)])
        exact s3.symm
      · repeat (first | rw [if_pos trivial] | rw [if_neg not_false] | rw [if_neg (by omega)] | rw [if_pos (by omega)])
        exact s4.symm
      · repeat (first | rw [if_pos trivial] | rw [if_neg not_false] | rw [if_neg (by omega)] | rw [if_pos (by omega)])
        exact s5.symm
  · exact (s_wt (s_mk (s_wt (s_mk (s_wt (s_mk (s_wt (s_mk (s_wt (s_mk (s_mk hs)) (by omega))) (by omega))) (by omega))) (by omega))) (by omega))
  · by_cases z : a < (n : Int)
    · rw [← hr a i a0 z i0 x0 x3 x4]
      simp only [p_rw, r_mk, tw_r, n_wt, n_mk, n_tw, hN, true_and]
      repeat (first | rw [if_pos trivial] | rw [if_neg not_false] | rw [if_neg (by omega)] | rw [if_pos (by omega)])
    · have w : a = (n : Int) ∨ a = (n : Int) + 1 ∨ a = (n : Int) + 2 ∨ a = (n : Int) + 3 ∨ a = (n : Int) + 4 ∨ a = (n : Int) + 5 := by omega
      rcases w with w | w | w | w | w | w <;> subst w
      · simp only [p_rw, r_mk, tw_r, n_wt, n_mk, n_tw, hN, true_and]
        by_cases y0 : i = 0
        · subst y0
          rw [i_cR s0 (by decide +kernel)]
          have pv : k_pv ((n : Int)) 0 = (n : Int) + 1 := by unfold k_pv; rw [s0]; rfl
          rw [pv]
          repeat (first | rw [if_pos trivial] | rw [if_neg not_false] | rw [if_neg (by omega)] | rw [if_pos (by omega)])
          omega
        by_cases y1 : i = 1
        · subst y1
          rw [i_cR s0 (by decide +kernel)]
          have pv : k_pv ((n : Int)) 1 = (n : Int) + 2 := by unfold k_pv; rw [s0]; rfl
          rw [pv]
          repeat (first | rw [if_pos trivial] | rw [if_neg not_false] | rw [if_neg (by omega)] | rw [if_pos (by omega)])
          omega
        by_cases y2 : i = 2
        · subst y2
          rw [i_cR s0 (by decide +kernel)]
          have pv : k_pv ((n : Int)) 2 = (n : Int) + 3 := by unfold k_pv; rw [s0]; rfl
          rw [pv]
          repeat (first | rw [if_pos trivial] | rw [if_neg not_false] | rw [if_neg (by omega)] | rw [if_pos (by omega)])
          omega
        by_cases y3 : i = 3
        · subst y3
          rw [i_cR s0 (by decide +kernel)]
          have pv : k_pv ((n : Int)) 3 = (n : Int) + 4 := by unfold k_pv; rw [s0]; rfl
          rw [pv]
          repeat (first | rw [if_pos trivial] | rw [if_neg not_false] | rw [if_neg (by omega)] | rw [if_pos (by omega)])
          omega
        by_cases y4 : i = 4
        · subst y4
          rw [i_cR s0 (by decide +kernel)]
          have pv : k_pv ((n : Int)) 4 = (n : Int) + 5 := by unfold k_pv; rw [s0]; rfl
          rw [pv]
          repeat (first | rw [if_pos trivial] | rw [if_neg not_false] | rw [if_neg (by omega)] | rw [if_pos (by omega)])
          omega
        have tg := i_t2 i0 y0 y1 y2 y3 y4
        rw [i_c0 s0 tg]
        rw [i_sp0 (by omega)]
        repeat (first | rw [if_pos trivial] | rw [if_neg not_false] | rw [if_neg (by omega)] | rw [if_pos (by omega)])
        exact i_d0 tg
      · simp only [p_rw, r_mk, tw_r, n_wt, n_mk, n_tw, hN, true_and]
        rw [i_c0 s1 (i_row (by omega) i), i_sp0 (by omega)]
        repeat (first | rw [if_pos trivial] | rw [if_neg not_false] | rw [if_neg (by omega)] | rw [if_pos (by omega)])
        exact i_d0 (i_row (by omega) i)
      · simp only [p_rw, r_mk, tw_r, n_wt, n_mk, n_tw, hN, true_and]
        rw [i_c0 s2 (i_row (by omega) i), i_sp0 (by omega)]
        repeat (first | rw [if_pos trivial] | rw [if_neg not_false] | rw [if_neg (by omega)] | rw [if_pos (by omega)])
        exact i_d0 (i_row (by omega) i)
      · simp only [p_rw, r_mk, tw_r, n_wt, n_mk, n_tw, hN, true_and]
        rw [i_c0 s3 (i_row (by omega) i), i_sp0 (by omega)]
        repeat (first | rw [if_pos trivial] | rw [if_neg not_false] | rw [if_neg (by omega)] | rw [if_pos (by omega)])
        exact i_d0 (i_row (by omega) i)
      · simp only [p_rw, r_mk, tw_r, n_wt, n_mk, n_tw, hN, true_and]
        rw [i_c0 s4 (i_row (by omega) i), i_sp0 (by omega)]
        repeat (first | rw [if_pos trivial] | rw [if_neg not_false] | rw [if_neg (by omega)] | rw [if_pos (by omega)])
        exact i_d0 (i_row (by omega) i)
      · simp only [p_rw, r_mk, tw_r, n_wt, n_mk, n_tw, hN, true_and]
        have e : i_c ((n : Int) + 5) i = 0 := by
          unfold i_c; rw [s5, if_neg (by rw [i_lng]; omega), i_sp0 (by omega)]
        rw [e]
        repeat (first | rw [if_pos trivial] | rw [if_neg not_false] | rw [if_neg (by omega)] | rw [if_pos (by omega)])
        rfl
  · rw [← h0 i i0]
    simp only [p_rw, r_mk, tw_r, n_wt, n_mk, n_tw, hN, true_and]
    repeat (first | rw [if_pos trivial] | rw [if_neg not_false] | rw [if_neg (by omega)] | rw [if_pos (by omega)])
  · rw [← h3 (by omega) i i0]
    simp only [p_rw, r_mk, tw_r, n_wt, n_mk, n_tw, hN, true_and]
    repeat (first | rw [if_pos trivial] | rw [if_neg not_false] | rw [if_neg (by omega)] | rw [if_pos (by omega)])
  · rw [← h4 (by omega) i i0]
    simp only [p_rw, r_mk, tw_r, n_wt, n_mk, n_tw, hN, true_and]
    repeat (first | rw [if_pos trivial] | rw [if_neg not_false] | rw [if_neg (by omega)] | rw [if_pos (by omega)])
set_option maxHeartbeats 8000000 in
set_option maxRecDepth 20000 in
theorem i_X5 {sc : Nat × (Nat → Int32)} {n t : Nat} {j h s : Int} {A : k_H} (d : i_D sc n t j h s A) (n1 : 1 ≤ n) (n34 : 4 < n ∨ n = 1) (sq : n + 2 ≤ 72 ∨ 120 ≤ n) (s0 : k_shp (n : Int) = (5, 2)) (s1 : k_shp ((n : Int) + 1) = (21, 200)) : ∃ A', fX5_init (k_mk A 5 2) n = some (0, A') ∧ i_D sc (n + 2) (t + 202) j h s A' := by
  obtain ⟨hN, hU, hT, hk, hs, hr, h0, h3, h4⟩ := d
  unfold fX5_init fX5_init_b0
  rw [if_pos (by omega), p_lt, if_pos ⟨by omega, by simp only [n_wt, n_mk, n_tw, hN]; omega, by simp only [d_wt, d_mk, d_tw, n_wt, n_mk, n_tw, hN]; repeat (first | rw [if_pos trivial] | rw [if_neg not_false] | rw [if_neg (by omega)] | rw [if_pos (by omega)])⟩, p_lt]
  simp only [n_wt, n_mk, n_tw, hN]
  refine ⟨_, rfl, ?_, ?_, ?_, fun a a0 a1 => ?_, ?_, fun a i a0 a1 i0 x0 x3 x4 => ?_, fun i i0 => ?_, fun q3 i i0 => ?_, fun q4 i i0 => ?_⟩
  · simp only [n_wt, n_mk, n_tw, hN]
  · simp only [u_wt, u_mk, u_tw, hU]
  · simp only [t_wt9, t_mk9, t_tw9, hT]
  · simp only [d_wt, d_mk, d_tw, n_wt, n_mk, n_tw, hN]
    by_cases z : a < (n : Int)
    · repeat (first | rw [if_pos trivial] | rw [if_neg not_false] | rw [if_neg (by omega)] | rw [if_pos (by omega)])
      exact hk a a0 z
    · have w : a = (n : Int) ∨ a = (n : Int) + 1 := by omega
      rcases w with w | w <;> subst w
      · repeat (first | rw [if_pos trivial] | rw [if_neg not_false] | rw [if_neg (by omega)] | rw [if_pos (by omega)])
        exact s0.symm
      · repeat (first | rw [if_pos trivial] | rw [if_neg not_false] | rw [if_neg (by omega)] | rw [if_pos (by omega)])
        exact s1.symm
  · exact (s_wt (s_mk (s_mk hs)) (by omega))
  · by_cases z : a < (n : Int)
    · rw [← hr a i a0 z i0 x0 x3 x4]
      simp only [p_rw, r_mk, tw_r, n_wt, n_mk, n_tw, hN, true_and]
      repeat (first | rw [if_pos trivial] | rw [if_neg not_false] | rw [if_neg (by omega)] | rw [if_pos (by omega)])
    · have w : a = (n : Int) ∨ a = (n : Int) + 1 := by omega
      rcases w with w | w <;> subst w
      · simp only [p_rw, r_mk, tw_r, n_wt, n_mk, n_tw, hN, true_and]
        by_cases y0 : i = 0
        · subst y0
          rw [i_cR s0 (by decide +kernel)]
          have pv : k_pv ((n : Int)) 0 = (n : Int) + 1 := by unfold k_pv; rw [s0]; rfl
          rw [pv]
          repeat (first | rw [if_pos trivial] | rw [if_neg not_false] | rw [if_neg (by omega)] | rw [if_pos (by omega)])
          omega
        have tg := i_t5 i0 y0
        rw [i_c0 s0 tg]
        rw [i_sp0 (by omega)]
        repeat (first | rw [if_pos trivial] | rw [if_neg not_false] | rw [if_neg (by omega)] | rw [if_pos (by omega)])
        exact i_d0 tg
      · simp only [p_rw, r_mk, tw_r, n_wt, n_mk, n_tw, hN, true_and]
        rw [i_c0 s1 (i_row (by omega) i), i_sp0 (by omega)]
        repeat (first | rw [if_pos trivial] | rw [if_neg not_false] | rw [if_neg (by omega)] | rw [if_pos (by omega)])
        exact i_d0 (i_row (by omega) i)
  · rw [← h0 i i0]
    simp only [p_rw, r_mk, tw_r, n_wt, n_mk, n_tw, hN, true_and]
    repeat (first | rw [if_pos trivial] | rw [if_neg not_false] | rw [if_neg (by omega)] | rw [if_pos (by omega)])
  · rw [← h3 (by omega) i i0]
    simp only [p_rw, r_mk, tw_r, n_wt, n_mk, n_tw, hN, true_and]
    repeat (first | rw [if_pos trivial] | rw [if_neg not_false] | rw [if_neg (by omega)] | rw [if_pos (by omega)])
  · rw [← h4 (by omega) i i0]
    simp only [p_rw, r_mk, tw_r, n_wt, n_mk, n_tw, hN, true_and]
    repeat (first | rw [if_pos trivial] | rw [if_neg not_false] | rw [if_neg (by omega)] | rw [if_pos (by omega)])
set_option maxHeartbeats 8000000 in
set_option maxRecDepth 20000 in
theorem i_X1 {sc : Nat × (Nat → Int32)} {n t : Nat} {j h s : Int} {A : k_H} (d : i_D sc n t j h s A) (n1 : 1 ≤ n) (n34 : 4 < n) (sq : n + 4 ≤ 72 ∨ 120 ≤ n) (s0 : k_shp (n : Int) = (1, 6)) (s1 : k_shp ((n : Int) + 1) = (0, 2)) (s2 : k_shp ((n : Int) + 2) = (21, 4)) (s3 : k_shp ((n : Int) + 3) = (21, 6)) : ∃ A', fX1_init (k_mk A 1 6) n = some (0, A') ∧ i_D sc (n + 4) (t + 18) j h s A' := by
  obtain ⟨hN, hU, hT, hk, hs, hr, h0, h3, h4⟩ := d
  unfold fX1_init fX1_init_b0
  rw [if_pos (by omega), p_lt, if_pos (by omega)]
  rw [n_mk, hN, i_a0 (N := n + 2) (L := 4) (M := 4) (by simp only [n_wt, n_mk, n_tw, hN]) (by omega) (by simp only [d_mk, n_wt, n_mk, n_tw, hN]; repeat (first | rw [if_pos trivial] | rw [if_neg not_false] | rw [if_neg (by omega)] | rw [if_pos (by omega)])) rfl (by omega), k_bds]
  rw [if_pos ⟨by omega, by simp only [n_wt, n_mk, n_tw, hN]; omega, by simp only [d_wt, d_mk, d_tw, n_wt, n_mk, n_tw, hN]; repeat (first | rw [if_pos trivial] | rw [if_neg not_false] | rw [if_neg (by omega)] | rw [if_pos (by omega)])⟩, p_lt, p_lt, if_pos ⟨by omega, by simp only [n_wt, n_mk, n_tw, hN]; omega, by simp only [d_wt, d_mk, d_tw, n_wt, n_mk, n_tw, hN]; repeat (first | rw [if_pos trivial] | rw [if_neg not_false] | rw [if_neg (by omega)] | rw [if_pos (by omega)])⟩, p_lt]
  simp only [n_wt, n_mk, n_tw, hN]
  refine ⟨_, rfl, ?_, ?_, ?_, fun a a0 a1 => ?_, ?_, fun a i a0 a1 i0 x0 x3 x4 => ?_, fun i i0 => ?_, fun q3 i i0 => ?_, fun q4 i i0 => ?_⟩
  · simp only [n_wt, n_mk, n_tw, hN]
  · simp only [u_wt, u_mk, u_tw, hU]
  · simp only [t_wt9, t_mk9, t_tw9, hT]
  · simp only [d_wt, d_mk, d_tw, n_wt, n_mk, n_tw, hN]
    by_cases z : a < (n : Int)
    · repeat (first | rw [if_pos trivial] | rw [if_neg not_false] | rw [if_neg (by omega)] | rw [if_pos (by omega)])
      exact hk a a0 z
    · have w : a = (n : Int) ∨ a = (n : Int) + 1 ∨ a = (n : Int) + 2 ∨ a = (n : Int) + 3 := by omega
      rcases w with w | w | w | w <;> subst w
      · repeat (first | rw [if_pos trivial] | rw [if_neg not_false] | rw [if_neg (by omega)] | rw [if_pos (by omega)])
        exact s0.symm
      · repeat (first | rw [if_pos trivial] | rw [if_neg not_false] | rw [if_neg (by omega)] | rw [if_pos (by omega)])
        exact s1.symm
      · repeat (first | rw [if_pos trivial] | rw [if_neg not_false] | rw [if_neg (by omega)] | rw [if_pos (by omega)])
        exact s2.symm
      · repeat (first | rw [if_pos trivial] | rw [if_neg not_false] | rw [if_neg (by omega)] | rw [if_pos (by omega)])
        exact s3.symm
  · exact s_wt (s_mk (s_wt (s_wt (s_mk (s_mk (s_mk hs))) (by omega)) (by omega))) (by omega)
  · by_cases z : a < (n : Int)
    · rw [← hr a i a0 z i0 x0 x3 x4]
      simp only [p_rw, r_mk, tw_r, n_wt, n_mk, n_tw, hN, true_and]
      repeat (first | rw [if_pos trivial] | rw [if_neg not_false] | rw [if_neg (by omega)] | rw [if_pos (by omega)])
    · have w : a = (n : Int) ∨ a = (n : Int) + 1 ∨ a = (n : Int) + 2 ∨ a = (n : Int) + 3 := by omega
      rcases w with w | w | w | w <;> subst w
      · simp only [p_rw, r_mk, tw_r, n_wt, n_mk, n_tw, hN, true_and]
        by_cases y0 : i = 0
        · subst y0
          rw [i_cR s0 (by decide +kernel)]
          have pv : k_pv ((n : Int)) 0 = (n : Int) + 1 := by unfold k_pv; rw [s0]; rfl
          rw [pv]
          repeat (first | rw [if_pos trivial] | rw [if_neg not_false] | rw [if_neg (by omega)] | rw [if_pos (by omega)])
          omega
        by_cases y1 : i = 1
        · subst y1
          rw [i_cR s0 (by decide +kernel)]
          have pv : k_pv ((n : Int)) 1 = (n : Int) + 3 := by unfold k_pv; rw [s0]; rfl
          rw [pv]
          repeat (first | rw [if_pos trivial] | rw [if_neg not_false] | rw [if_neg (by omega)] | rw [if_pos (by omega)])
          omega
        have tg := i_t1 i0 y0 y1
        rw [i_c0 s0 tg]
        rw [i_sp0 (by omega)]
        repeat (first | rw [if_pos trivial] | rw [if_neg not_false] | rw [if_neg (by omega)] | rw [if_pos (by omega)])
        exact i_d0 tg
      · simp only [p_rw, r_mk, tw_r, n_wt, n_mk, n_tw, hN, true_and]
        by_cases y0 : i = 0
        · subst y0
          rw [i_cR s1 (by decide +kernel)]
          have pv : k_pv ((n : Int) + 1) 0 = (n : Int) + 1 + 1 := by unfold k_pv; rw [s1]; rfl
          rw [pv]
          repeat (first | rw [if_pos trivial] | rw [if_neg not_false] | rw [if_neg (by omega)] | rw [if_pos (by omega)])
          omega
        have tg := i_t0 i0 y0
        rw [i_c0 s1 tg]
        rw [i_sp0 (by omega)]
        repeat (first | rw [if_pos trivial] | rw [if_neg not_false] | rw [if_neg (by omega)] | rw [if_pos (by omega)])
        exact i_d0 tg
      · simp only [p_rw, r_mk, tw_r, n_wt, n_mk, n_tw, hN, true_and]
        rw [i_c0 s2 (i_row (by omega) i), i_sp0 (by omega)]
        repeat (first | rw [if_pos trivial] | rw [if_neg not_false] | rw [if_neg (by omega)] | rw [if_pos (by omega)])
        exact i_d0 (i_row (by omega) i)
      · simp only [p_rw, r_mk, tw_r, n_wt, n_mk, n_tw, hN, true_and]
        rw [i_c0 s3 (i_row (by omega) i), i_sp0 (by omega)]
        repeat (first | rw [if_pos trivial] | rw [if_neg not_false] | rw [if_neg (by omega)] | rw [if_pos (by omega)])
        exact i_d0 (i_row (by omega) i)
  · rw [← h0 i i0]
    simp only [p_rw, r_mk, tw_r, n_wt, n_mk, n_tw, hN, true_and]
    repeat (first | rw [if_pos trivial] | rw [if_neg not_false] | rw [if_neg (by omega)] | rw [if_pos (by omega)])
  · rw [← h3 (by omega) i i0]
    simp only [p_rw, r_mk, tw_r, n_wt, n_mk, n_tw, hN, true_and]
    repeat (first | rw [if_pos trivial] | rw [if_neg not_false] | rw [if_neg (by omega)] | rw [if_pos (by omega)])
  · rw [← h4 (by omega) i i0]
    simp only [p_rw, r_mk, tw_r, n_wt, n_mk, n_tw, hN, true_and]
    repeat (first | rw [if_pos trivial] | rw [if_neg not_false] | rw [if_neg (by omega)] | rw [if_pos (by omega)])
set_option maxHeartbeats 8000000 in
set_option maxRecDepth 20000 in
theorem i_X7 {sc : Nat × (Nat → Int32)} {n t : Nat} {j h s : Int} {A : k_H} (d : i_D sc n t j h s A) (n1 : 1 ≤ n) (n34 : 4 < n) (sq : n + 6 ≤ 72 ∨ 120 ≤ n) (s0 : k_shp (n : Int) = (7, 12)) (s1 : k_shp ((n : Int) + 1) = (6, 7)) (s2 : k_shp ((n : Int) + 2) = (21, 3)) (s3 : k_shp ((n : Int) + 3) = (21, 3)) (s4 : k_shp ((n : Int) + 4) = (5, 2)) (s5 : k_shp ((n : Int) + 5) = (21, 200)) : ∃ A', fX7_init (k_mk A 7 12) n = some (0, A') ∧ i_D sc (n + 6) (t + 227) j h s A' := by
  obtain ⟨hN, hU, hT, hk, hs, hr, h0, h3, h4⟩ := d
  unfold fX7_init fX7_init_b0
  rw [if_pos (by omega), p_lt, if_pos (by omega)]
  rw [n_mk, hN, i_a6 (N := n + 2) (by simp only [n_wt, n_mk, n_tw, hN]) (by omega) (by simp only [d_mk, n_wt, n_mk, n_tw, hN]; repeat (first | rw [if_pos trivial] | rw [if_neg not_false] | rw [if_neg (by omega)] | rw [if_pos (by omega)])), k_bds]
  rw [if_pos ⟨by omega, by simp only [n_wt, n_mk, n_tw, hN]; omega, by simp only [d_wt, d_mk, d_tw, n_wt, n_mk, n_tw, hN]; repeat (first | rw [if_pos trivial] | rw [if_neg not_false] | rw [if_neg (by omega)] | rw [if_pos (by omega)])⟩, p_lt, p_lt, if_pos (by omega)]
  simp only [n_wt, n_mk, n_tw, hN]
  rw [i_a5 (N := n + 5) (by simp only [n_wt, n_mk, n_tw, hN]) (by omega) (by simp only [d_wt, d_mk, n_wt, n_mk, n_tw, hN]; repeat (first | rw [if_pos trivial] | rw [if_neg not_false] | rw [if_neg (by omega)] | rw [if_pos (by omega)])), k_bds]
  rw [if_pos ⟨by omega, by simp only [n_wt, n_mk, n_tw, hN]; omega, by simp only [d_wt, d_mk, d_tw, n_wt, n_mk, n_tw, hN]; repeat (first | rw [if_pos trivial] | rw [if_neg not_false] | rw [if_neg (by omega)] | rw [if_pos (by omega)])⟩, p_lt]
  refine ⟨_, rfl, ?_, ?_, ?_, fun a a0 a1 => ?_, ?_, fun a i a0 a1 i0 x0 x3 x4 => ?_, fun i i0 => ?_, fun q3 i i0 => ?_, fun q4 i i0 => ?_⟩
  · simp only [n_wt, n_mk, n_tw, hN]
  · simp only [u_wt, u_mk, u_tw, hU]
  · simp only [t_wt9, t_mk9, t_tw9, hT]
  · simp only [d_wt, d_mk, d_tw, n_wt, n_mk, n_tw, hN]
    by_cases z : a < (n : Int)
    · repeat (first | rw [if_pos trivial] | rw [if_neg not_false] | rw [if_neg (by omega)] | rw [if_pos (by omega)])
      exact hk a a0 z
    · have w : a = (n : Int) ∨ a = (n : Int) + 1 ∨ a = (n : Int) + 2 ∨ a = (n : Int) + 3 ∨ a = (n : Int) + 4 ∨ a = (n : Int) + 5 := by omega
      rcases w with w | w | w | w | w | w <;> subst w
      · repeat (first | rw [if_pos trivial] | rw [if_neg not_false] | rw [if_neg (by omega)] | rw [if_pos (by omega)])
        exact s0.symm
      · repeat (first | rw [if_pos trivial] | rw [if_neg not_false] | rw [if_neg (by omega)] | rw [if_pos (by omega)])
        exact s1.symm
      · repeat (first | rw [if_pos trivial] | rw [if_neg not_false] | rw [if_neg (by omega)] | rw [if_pos (by omega)])
        exact s2.symm
      · repeat (first | rw [if_pos trivial] | rw [if_neg not_false] | rw [if_neg (by omega)] | rw [if_pos (by omega)])
        exact s3.symm
      · repeat (first | rw [if_pos trivial] | rw [if_neg not_false] | rw [if_neg (by omega)] | rw [if_pos (by omega)])
        exact s4.symm
      · repeat (first | rw [if_pos trivial] | rw [if_neg not_false] | rw [if_neg (by omega)] | rw [if_pos (by omega)])
        exact s5.symm
  · exact s_wt (s_wt (s_mk (s_mk (s_wt (s_wt (s_mk (s_wt (s_mk (s_mk (s_mk hs))) (by omega))) (by omega)) (by omega)))) (by omega)) (by omega)
  · by_cases z : a < (n : Int)
    · rw [← hr a i a0 z i0 x0 x3 x4]
      simp only [p_rw, r_mk, tw_r, n_wt, n_mk, n_tw, hN, true_and]
      repeat (first | rw [if_pos trivial] | rw [if_neg not_false] | rw [if_neg (by omega)] | rw [if_pos (by omega)])
    · have w : a = (n : Int) ∨ a = (n : Int) + 1 ∨ a = (n : Int) + 2 ∨ a = (n : Int) + 3 ∨ a = (n : Int) + 4 ∨ a = (n : Int) + 5 := by omega
      rcases w with w | w | w | w | w | w <;> subst w
      · simp only [p_rw, r_mk, tw_r, n_wt, n_mk, n_tw, hN, true_and]
        by_cases y0 : i = 0
        · subst y0
          rw [i_cR s0 (by decide +kernel)]
          have pv : k_pv ((n : Int)) 0 = (n : Int) + 1 := by unfold k_pv; rw [s0]; rfl
          rw [pv]
          repeat (first | rw [if_pos trivial] | rw [if_neg not_false] | rw [if_neg (by omega)] | rw [if_pos (by omega)])
          omega
        by_cases y4 : i = 4
        · subst y4
          rw [i_cR s0 (by decide +kernel)]
          have pv : k_pv ((n : Int)) 4 = (n : Int) + 4 := by unfold k_pv; rw [s0]; rfl
          rw [pv]
          repeat (first | rw [if_pos trivial] | rw [if_neg not_false] | rw [if_neg (by omega)] | rw [if_pos (by omega)])
          omega
        have tg := i_t7 i0 y0 y4
        rw [i_c0 s0 tg]
        rw [i_sp0 (by omega)]
        repeat (first | rw [if_pos trivial] | rw [if_neg not_false] | rw [if_neg (by omega)] | rw [if_pos (by omega)])
        exact i_d0 tg
      · simp only [p_rw, r_mk, tw_r, n_wt, n_mk, n_tw, hN, true_and]
        by_cases y0 : i = 0
        · subst y0
          rw [i_cR s1 (by decide +kernel)]
          have pv : k_pv ((n : Int) + 1) 0 = (n : Int) + 1 + 1 := by unfold k_pv; rw [s1]; rfl
          rw [pv]
          repeat (first | rw [if_pos trivial] | rw [if_neg not_false] | rw [if_neg (by omega)] | rw [if_pos (by omega)])
          omega
        by_cases y1 : i = 1
        · subst y1
          rw [i_cR s1 (by decide +kernel)]
          have pv : k_pv ((n : Int) + 1) 1 = (n : Int) + 1 + 2 := by unfold k_pv; rw [s1]; rfl
          rw [pv]
          repeat (first | rw [if_pos trivial] | rw [if_neg not_false] | rw [if_neg (by omega)] | rw [if_pos (by omega)])
          omega
        have tg := i_t6 i0 y0 y1
        rw [i_c0 s1 tg]
        rw [i_sp0 (by omega)]
        repeat (first | rw [if_pos trivial] | rw [if_neg not_false] | rw [if_neg (by omega)] | rw [if_pos (by omega)])
        exact i_d0 tg
      · simp only [p_rw, r_mk, tw_r, n_wt, n_mk, n_tw, hN, true_and]
        rw [i_c0 s2 (i_row (by omega) i), i_sp0 (by omega)]
        repeat (first | rw [if_pos trivial] | rw [if_neg not_false] | rw [if_neg (by omega)] | rw [if_pos (by omega)])
        exact i_d0 (i_row (by omega) i)
      · simp only [p_rw, r_mk, tw_r, n_wt, n_mk, n_tw, hN, true_and]
        rw [i_c0 s3 (i_row (by omega) i), i_sp0 (by omega)]
        repeat (first | rw [if_pos trivial] | rw [if_neg not_false] | rw [if_neg (by omega)] | rw [if_pos (by omega)])
        exact i_d0 (i_row (by omega) i)
      · simp only [p_rw, r_mk, tw_r, n_wt, n_mk, n_tw, hN, true_and]
        by_cases y0 : i = 0
        · subst y0
          rw [i_cR s4 (by decide +kernel)]
          have pv : k_pv ((n : Int) + 4) 0 = (n : Int) + 4 + 1 := by unfold k_pv; rw [s4]; rfl
          rw [pv]
          repeat (first | rw [if_pos trivial] | rw [if_neg not_false] | rw [if_neg (by omega)] | rw [if_pos (by omega)])
          omega
        have tg := i_t5 i0 y0
        rw [i_c0 s4 tg]
        rw [i_sp0 (by omega)]
        repeat (first | rw [if_pos trivial] | rw [if_neg not_false] | rw [if_neg (by omega)] | rw [if_pos (by omega)])
        exact i_d0 tg
      · simp only [p_rw, r_mk, tw_r, n_wt, n_mk, n_tw, hN, true_and]
        rw [i_c0 s5 (i_row (by omega) i), i_sp0 (by omega)]
        repeat (first | rw [if_pos trivial] | rw [if_neg not_false] | rw [if_neg (by omega)] | rw [if_pos (by omega)])
        exact i_d0 (i_row (by omega) i)
  · rw [← h0 i i0]
    simp only [p_rw, r_mk, tw_r, n_wt, n_mk, n_tw, hN, true_and]
    repeat (first | rw [if_pos trivial] | rw [if_neg not_false] | rw [if_neg (by omega)] | rw [if_pos (by omega)])
  · rw [← h3 (by omega) i i0]
    simp only [p_rw, r_mk, tw_r, n_wt, n_mk, n_tw, hN, true_and]
    repeat (first | rw [if_pos trivial] | rw [if_neg not_false] | rw [if_neg (by omega)] | rw [if_pos (by omega)])
  · rw [← h4 (by omega) i i0]
    simp only [p_rw, r_mk, tw_r, n_wt, n_mk, n_tw, hN, true_and]
    repeat (first | rw [if_pos trivial] | rw [if_neg not_false] | rw [if_neg (by omega)] | rw [if_pos (by omega)])
