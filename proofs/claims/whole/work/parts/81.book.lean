/-! book: what both sides look for -/
def a_G (A : k_H) (s h : Int) : Int := k_rd A 136 (6 * h + s)
def a_ok (A : k_H) (s : Int) (v : Int → Int) (h : Int) : Int := if 0 < a_G A s h ∧ v h = 1 then 1 else 0
noncomputable def a_E (A : k_H) (s : Int) (v : Int → Int) : e_E := (fun i => a_G A s (a_f (a_ok A s v) (k_rd A 120 20).toNat i), fun i j => a_p (k_rd A 122) (k_rd A 123) (k_rd A 134 s) (a_f (a_ok A s v) (k_rd A 120 20).toNat i) (a_f (a_ok A s v) (k_rd A 120 20).toNat j), fun i n => @ite Int (∃ t : Int, 0 ≤ t ∧ t < k_rd A 120 21 ∧ t ≠ s ∧ k_rd A (72 + 8 * t + 3) n = a_f (a_ok A s v) (k_rd A 120 20).toNat i) (Classical.propDecidable _) 1 0, k_rd A 135 s, a_c (a_ok A s v) (k_rd A 120 20).toNat)
noncomputable def a_al (A : k_H) (s : Int) (v : Int → Int) (o : Nat) : Int := if o < e_mn (a_E A s v) then a_f (a_ok A s v) (k_rd A 120 20).toNat o else -1
def a_v (A : k_H) (s : Int) (v : Int → Int) : Prop := ∀ h : Int, 0 ≤ h → h < 12 → ∀ B, p_ag p_H A B → p_ag p_S A B → (∃ C, gX8_fitOf B (72 + 8 * s) (24 + 4 * h) = some (v h, C) ∧ ∀ a i : Int, a < 5 ∨ 11 < a → k_rd C a i = k_rd B a i) ∧ (∃ D, gX9_fit B s h = some (v h, D) ∧ ∀ a i : Int, a ≠ 137 ∧ a ≠ 138 → k_rd D a i = k_rd B a i)
theorem a_vE {A : k_H} (r : Rel A) {s : Int} (hs : 0 ≤ s ∧ s < 6) : ∃ v, a_v A s v := by
  have q : ∀ h : Int, ∃ v : Int, 0 ≤ h → h < 12 → ∀ B, p_ag p_H A B → p_ag p_S A B → (∃ C, gX8_fitOf B (72 + 8 * s) (24 + 4 * h) = some (v, C) ∧ ∀ a i : Int, a < 5 ∨ 11 < a → k_rd C a i = k_rd B a i) ∧ (∃ D, gX9_fit B s h = some (v, D) ∧ ∀ a i : Int, a ≠ 137 ∧ a ≠ 138 → k_rd D a i = k_rd B a i) := by
    intro h
    by_cases z : 0 ≤ h ∧ h < 12
    · obtain ⟨v, hv⟩ := o_fit r.2.1 r.2.2.2.1 hs z
      exact ⟨v, fun _ _ => hv⟩
    · exact ⟨0, fun x y => absurd ⟨x, y⟩ z⟩
  obtain ⟨v, hv⟩ := Classical.axiomOfChoice q
  exact ⟨v, hv⟩
section
variable {A : k_H} {s : Int} {v : Int → Int}
theorem a_ptB (r : Rel A) (hs : 0 ≤ s ∧ s < 6) {i : Nat} (hi : i < a_c (a_ok A s v) (k_rd A 120 20).toNat) : (0 ≤ a_f (a_ok A s v) (k_rd A 120 20).toNat i ∧ a_f (a_ok A s v) (k_rd A 120 20).toNat i < k_rd A 120 20) ∧ 1 ≤ a_G A s (a_f (a_ok A s v) (k_rd A 120 20).toNat i) ∧ a_G A s (a_f (a_ok A s v) (k_rd A 120 20).toNat i) ≤ 10 := by
  have hH := r.2.1.2.2.1
  have hH0 := r.2.1.2.1
  have b := a_fB _ i hi
  have o := a_fO _ i hi
  have g := r.2.2.1 (a_f (a_ok A s v) (k_rd A 120 20).toNat i) s (by omega) (by omega) hs.1 hs.2
  unfold a_ok at o
  by_cases z : 0 < a_G A s (a_f (a_ok A s v) (k_rd A 120 20).toNat i) ∧ v (a_f (a_ok A s v) (k_rd A 120 20).toNat i) = 1
  · have g2 : a_G A s (a_f (a_ok A s v) (k_rd A 120 20).toNat i) ≤ 10 := g.2.2.1
    omega
  · exfalso
    have : a_ok A s v (a_f (a_ok A s v) (k_rd A 120 20).toNat i) = 0 := if_neg z
    have o2 := a_fO (ok := a_ok A s v) (k_rd A 120 20).toNat i hi
    omega
theorem c_bk (r : Rel A) (hs : 0 ≤ s ∧ s < k_rd A 120 21) (hv : a_v A s v) {k : Nat} (hk : k_rd A 132 s + k = k_rd A 133 s + 1) : ∃ C, gX8_book A s = some (e_V (a_E A s v) k (k_rd A 132 s) ((0, -1, 0, 0) : e_s), C) ∧ (∀ a i : Int, a < 5 ∨ 17 < a → a ≠ 72 + 8 * s + 3 → a ≠ 72 + 8 * s + 4 → k_rd C a i = k_rd A a i) ∧ (∀ j : Int, 0 ≤ j → j < 14 → k_rd C (72 + 8 * s + 3) j = if k_rd A 132 s ≤ j ∧ j ≤ k_rd A 133 s then a_al A s v (e_pa (a_E A s v) k (k_rd A 132 s) ((0, -1, 0, 0) : e_s) j) else -1) ∧ (∀ j : Int, 0 ≤ j → j < 14 → k_rd C (72 + 8 * s + 4) j = -1) := by
  have eS := r.2.2.2.1.1
  have hS0 := r.2.2.2.1.2.1
  have hS := r.2.2.2.1.2.2.1
  have eH := r.2.1.1
  have hH0 := r.2.1.2.1
  have hH := r.2.1.2.2.1
  have qH := r.2.1.2.2.2
  have qS := (r.2.2.2.1.2.2.2 s hs.1 (by omega)).2.2.2.2 hs.2
  have rG := r.2.2.1
  have rL := r.2.2.2.2.1
  have ptB := fun i hi => a_ptB (v := v) r (s := s) (by omega) (i := i) hi
  have sh := t_shpT s hs.1 (by omega)
  obtain ⟨q1, q2, q3, q4, q5, q6, q7, q8, q9, q10, q11⟩ := qS
  have mx : max 1 (k_rd A 134 s) = k_rd A 134 s := by omega
  have bX : z_B (k_rd A 122) := fun h x y => (qH h x y).1.2
  have bY : z_B (k_rd A 123) := fun h x y => (qH h x y).2.1.2
  have n0 := fun a i h => a_0n (A := A) (s := s) (fr := k_rd A 132 s) (to := k_rd A 133 s) (mi := k_rd A 134 s) (ro := k_rd A 135 s) (a := a) (i := i) h
  have t0 := fun i h => a_0t (A := A) (s := s) (fr := k_rd A 132 s) (to := k_rd A 133 s) (mi := k_rd A 134 s) (ro := k_rd A 135 s) (i := i) hs.1 h
  obtain ⟨r6, r7, r8, r9, r10⟩ := a_0r (A := A) (s := s) (fr := k_rd A 132 s) (to := k_rd A 133 s) (mi := k_rd A 134 s) (ro := k_rd A 135 s)
  have st : gX8_book A s = gX8_book_h34 k_FU (a_0 A s (k_rd A 132 s) (k_rd A 133 s) (k_rd A 134 s) (k_rd A 135 s)) s 0 := by
    unfold gX8_book gX8_book_b0
    rw [h_X8isShow, k_bds, eS, p_bt hs, if_neg (by omega), if_pos (by omega)]
    unfold gX4_forgetTour gX4_forgetTour_b0
    rw [c_fill sh.1 (by omega), k_bds, c_fill sh.2 (by omega), k_bds, k_bds]
    unfold gX2_start gX2_start_b0
    rw [p_lt, p_lt, p_lt, p_lt, p_lt, k_bds]
    rw [p_rwn (b := 72 + 8 * s) (by omega), tw_n (b := 72 + 8 * s) (by omega), tw_n (b := 72 + 8 * s) (by omega), q1, p_rwn (b := 72 + 8 * s) (by omega), p_rwn (b := 72 + 8 * s) (by omega), tw_n (b := 72 + 8 * s) (by omega), tw_n (b := 72 + 8 * s) (by omega), q2, p_rwn (b := 72 + 8 * s) (by omega), p_rwn (b := 72 + 8 * s) (by omega), p_rwn (b := 72 + 8 * s) (by omega), tw_n (b := 72 + 8 * s) (by omega), tw_n (b := 72 + 8 * s) (by omega), q3, mx, p_rwn (b := 72 + 8 * s) (by omega), p_rwn (b := 72 + 8 * s) (by omega), p_rwn (b := 72 + 8 * s) (by omega), p_rwn (b := 72 + 8 * s) (by omega), tw_n (b := 72 + 8 * s) (by omega), tw_n (b := 72 + 8 * s) (by omega), q4]
    rfl
  generalize hA0 : a_0 A s (k_rd A 132 s) (k_rd A 133 s) (k_rd A 134 s) (k_rd A 135 s) = A0 at n0 t0 r6 r7 r8 r9 r10 st
  obtain ⟨N, hN⟩ := p_FU ((k_rd A 120 20).toNat + 1) (by have : k_FU = 1073741824 := rfl; omega)
  obtain ⟨B, e1, I⟩ := c_askL (A := A0) (s := s) (S := k_rd A 120 21) (mi := k_rd A 134 s) (X := k_rd A 122) (Y := k_rd A 123) (G := a_G A s) (v := v) (ok := a_ok A s v) (H := (k_rd A 120 20).toNat) (by omega) (by omega) (by rw [n0 _ _ (by omega), eH]; omega) (by rw [n0 _ _ (by omega)]; exact eS) hS0 hS r9 (by omega) (fun h x y => by rw [n0 _ _ (by omega)]; exact (qH h x y).1.1) (fun h x y => by rw [n0 _ _ (by omega)]; exact (qH h x y).2.1.1) bX bY (fun h x y => by rw [n0 _ _ (by omega)]; exact (rG h s x y hs.1 (by omega)).1) (fun h x y => rfl) (fun h x y B ag => (hv h x y B (fun a i q => by
    rw [ag a i (by unfold p_H at q; omega), n0 a i (by unfold p_H at q; omega)]) (fun a i q => by
    rw [ag a i (by unfold p_S at q; omega), n0 a i (by unfold p_S at q; omega)])).1) (k_rd A 120 20).toNat N 0 A0 (by omega) ⟨by rw [r6]; rfl, fun _ _ _ => rfl, fun i q => by rw [a_c] at q; omega, fun i j q => by rw [a_c] at q; omega, fun i q => by rw [a_c] at q; omega⟩
  have cx : e_cx B (a_E A s v) (k_rd A 133 s) := by
    refine ⟨I.1, a_c6 _, by rw [I.2.1 _ _ (by omega)]; exact r8, by omega, by omega, by rw [I.2.1 _ _ (by omega)]; exact r10, q10, q11, fun i j hi hj ij => ?_, fun i hi => ?_, fun i hi => ?_⟩
    · have bi := ptB i hi
      have bj := ptB j hj
      exact ⟨I.2.2.2.1 i j hi hj ij, a_pB bX bY (by omega) (by omega) (by omega)⟩
    · have bi := ptB i hi
      refine ⟨?_, bi.2⟩
      rw [(I.2.2.1 i hi).2, n0 _ _ (by omega)]
      exact (rG _ s (by omega) (by omega) hs.1 (by omega)).1
    · obtain ⟨x, x1, x2, x3⟩ := I.2.2.2.2 i hi
      refine ⟨x, x1, x2, fun n hn => ?_⟩
      rw [x3 n hn]
      have bi := ptB i hi
      have ex : (∃ t : Int, 0 ≤ t ∧ t < k_rd A 120 21 ∧ k_rd A0 (72 + 8 * t + 3) n = a_f (a_ok A s v) (k_rd A 120 20).toNat i) ↔ (∃ t : Int, 0 ≤ t ∧ t < k_rd A 120 21 ∧ t ≠ s ∧ k_rd A (72 + 8 * t + 3) n = a_f (a_ok A s v) (k_rd A 120 20).toNat i) := by
        constructor
        · rintro ⟨t, y0, y1, y2⟩
          have ts : t ≠ s := fun e => by
            rw [e, (t0 n (by omega)).1] at y2
            omega
          exact ⟨t, y0, y1, ts, by rw [← y2, n0 _ _ (by omega)]⟩
        · rintro ⟨t, y0, y1, ts, y2⟩
          exact ⟨t, y0, y1, by rw [n0 _ _ (by omega)]; exact y2⟩
      rw [ex]
      show _ ↔ @ite Int _ (Classical.propDecidable _) 1 0 ≠ 0
      by_cases z : ∃ t : Int, 0 ≤ t ∧ t < k_rd A 120 21 ∧ t ≠ s ∧ k_rd A (72 + 8 * t + 3) n = a_f (a_ok A s v) (k_rd A 120 20).toNat i
      · rw [if_pos z]; exact ⟨fun _ => by omega, fun _ => z⟩
      · rw [if_neg z]; exact ⟨fun q => absurd q z, fun q => absurd rfl q⟩
  obtain ⟨C, d1, d2, d3⟩ := c_bookBest cx (v := 72 + 8 * s) (by omega) (fr := k_rd A 132 s) (by rw [I.2.1 _ _ (by omega)]; exact r7) q5 q6 (fun j x y => by rw [I.2.1 _ _ (by omega)]; exact (t0 j ⟨x, y⟩).1) hk
  have as : ∀ o : Nat, e_as B (a_E A s v) o = a_al A s v o := by
    intro o
    unfold e_as a_al
    by_cases z : o < e_mn (a_E A s v)
    · rw [if_pos z, if_pos z]; exact (I.2.2.1 o z).1
    · rw [if_neg z, if_neg z]
  have tour : ∀ j : Int, 0 ≤ j → j < 14 → k_rd C (72 + 8 * s + 3) j = if k_rd A 132 s ≤ j ∧ j ≤ k_rd A 133 s then a_al A s v (e_pa (a_E A s v) k (k_rd A 132 s) ((0, -1, 0, 0) : e_s) j) else -1 := by
    intro j x y
    rw [d3 j, as, I.2.1 _ _ (by omega), (t0 j ⟨x, y⟩).1]
  have fr : ∀ a i : Int, a < 5 ∨ 17 < a → a ≠ 72 + 8 * s + 3 → a ≠ 72 + 8 * s + 4 → k_rd C a i = k_rd A a i := fun a i x y z => by rw [d2 a i (by omega), I.2.1 a i (by omega), n0 a i (by omega)]
  refine ⟨C, ?_, fr, tour, fun j x y => by rw [d2 _ _ (by omega), I.2.1 _ _ (by omega)]; exact (t0 j ⟨x, y⟩).2⟩
  have wt : gX8_worthOfTour C s = some (p_sum (w_c C s) 14, C) := c_worth (by omega) (by rw [fr _ _ (by omega) (by omega) (by omega)]; omega) (fun h x y => by
    rw [fr _ _ (by omega) (by omega) (by omega)]
    have := rG h s x y hs.1 (by omega)
    omega)
  have wv : ∀ j : Int, 0 ≤ j → j < 14 → w_c C s j = if k_rd A 132 s ≤ j ∧ j ≤ k_rd A 133 s then (if e_pa (a_E A s v) k (k_rd A 132 s) ((0, -1, 0, 0) : e_s) j < e_mn (a_E A s v) then e_pt (a_E A s v) (e_pa (a_E A s v) k (k_rd A 132 s) ((0, -1, 0, 0) : e_s) j) else 0) else 0 := by
    intro j x y
    unfold w_c
    rw [tour j x y, fr 0 6 (by omega) (by omega) (by omega), eH]
    by_cases z : k_rd A 132 s ≤ j ∧ j ≤ k_rd A 133 s
    · rw [if_pos z, if_pos z]
      generalize e_pa (a_E A s v) k (k_rd A 132 s) ((0, -1, 0, 0) : e_s) j = o
      unfold a_al
      by_cases w : o < e_mn (a_E A s v)
      · have b := ptB o w
        rw [if_pos w, if_pos w, if_pos (by omega), fr _ _ (by omega) (by omega) (by omega)]
        exact (rG _ s (by omega) (by omega) hs.1 (by omega)).1
      · rw [if_neg w, if_neg w, if_neg (by omega)]
    · rw [if_neg z, if_neg z, if_neg (by omega)]
  have sum : p_sum (w_c C s) 14 = e_V (a_E A s v) k (k_rd A 132 s) ((0, -1, 0, 0) : e_s) := by
    obtain ⟨f, hf⟩ : ∃ f : Nat, k_rd A 132 s = f := ⟨(k_rd A 132 s).toNat, by omega⟩
    have z1 : p_sum (w_c C s) 14 = p_sum (w_c C s) (f + k) := p_sumZ (f + k) 14 (by omega) (fun i x y => by rw [wv i (by omega) (by omega), if_neg (by omega)])
    have z2 : p_sum (w_c C s) f = 0 := p_sumZ 0 f (by omega) (fun i x y => by rw [wv i (by omega) (by omega), if_neg (by omega)])
    have z3 := q_afP (f := w_c C s) k f
    rw [z1, ← z3, z2, Int.add_zero, ← e_paV (e_hp1 cx) k (k_rd A 132 s) ((0, -1, 0, 0) : e_s), hf]
    refine q_afE k f (fun j x y => ?_)
    rw [wv j (by omega) (by omega), if_pos (by omega), hf]
  have e2 : gX8_book_h34 (N + ((k_rd A 120 20).toNat + 1)) A0 s 0 = _ := e1
  rw [st, hN, e2, d1, k_bds, wt, k_bds, sum]
end
