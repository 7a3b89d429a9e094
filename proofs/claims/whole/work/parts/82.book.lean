/-! book, the reference's side -/
theorem a_full {ok : Int → Int} {k : Nat} (h : a_c ok k = 6) : ∀ d : Nat, a_c ok (k + d) = 6 ∧ a_f ok (k + d) = a_f ok k := by
  intro d
  induction d with
  | zero => exact ⟨h, rfl⟩
  | succ d ih =>
    have n : ¬ (ok ((k + d : Nat) : Int) = 1 ∧ a_c ok (k + d) < 6) := by omega
    constructor
    · show a_c ok ((k + d) + 1) = 6
      rw [a_c, if_neg n]; exact ih.1
    · show a_f ok ((k + d) + 1) = _
      rw [a_f, if_neg n]; exact ih.2
theorem m_askL {A : k_H} {s : Int} {G v ok : Int → Int} {H : Nat} (hs : 0 ≤ s ∧ s < 6) (H12 : H ≤ 12) (hH : k_rd A 120 20 = H) (hG : ∀ h : Int, 0 ≤ h → h < 12 → k_rd A 136 (6 * h + s) = G h ∧ 0 ≤ G h) (hok : ∀ h : Int, 0 ≤ h → h < 12 → ok h = if 0 < G h ∧ v h = 1 then 1 else 0) (hv : ∀ h : Int, 0 ≤ h → h < 12 → ∀ B, (∀ a i : Int, a < 137 ∨ (138 < a ∧ a ≠ 141) → k_rd B a i = k_rd A a i) → ∃ C, gX9_fit B s h = some (v h, C) ∧ ∀ a i : Int, a ≠ 137 ∧ a ≠ 138 → k_rd C a i = k_rd B a i) : ∀ (d N k : Nat) (B : k_H), k + d = H → (∀ a i : Int, a < 137 ∨ (138 < a ∧ a ≠ 141) → k_rd B a i = k_rd A a i) → (∀ i : Nat, i < a_c ok k → k_rd B 141 i = a_f ok k i) → ∃ B', gX9_book_h57 (N + d + 1) B s (a_c ok k) k = gX9_book_b114 B' s (a_c ok H) ∧ (∀ a i : Int, a < 137 ∨ (138 < a ∧ a ≠ 141) → k_rd B' a i = k_rd A a i) ∧ (∀ i : Nat, i < a_c ok H → k_rd B' 141 i = a_f ok H i) := by
  intro d
  induction d with
  | zero =>
    intro N k B kd f g
    have : k = H := by omega
    subst this
    refine ⟨B, ?_, f, g⟩
    rw [gX9_book_h57, f _ _ (by omega), hH, if_neg (by omega)]
  | succ d ih =>
    intro N k B kd f g
    show ∃ B', gX9_book_h57 ((N + d + 1) + 1) B s (a_c ok k) k = _ ∧ _
    have hk : (0 : Int) ≤ k ∧ (k : Int) < 12 := by omega
    have gk := hG k hk.1 hk.2
    have okk := hok k hk.1 hk.2
    have c6 := a_c6 (ok := ok) k
    have ek : k_wr ((k : Int) + 1) = ((k + 1 : Nat) : Int) := by rw [k_wr_of (by omega) (by omega)]; omega
    by_cases full : a_c ok k < 6
    · rw [gX9_book_h57, f _ _ (by omega), hH, if_pos (by omega), if_pos (by omega), k_wr_of (x := 6 * (k : Int)) (by omega) (by omega), k_wr_of (x := 6 * (k : Int) + s) (by omega) (by omega), if_pos (by omega), f _ _ (by omega), gk.1]
      simp only [gX9_book_b108]
      rw [ek]
      have skip : ∀ C, (∀ a i : Int, a < 137 ∨ (138 < a ∧ a ≠ 141) → k_rd C a i = k_rd A a i) → (∀ i : Nat, i < a_c ok k → k_rd C 141 i = a_f ok k i) → ¬ ok k = 1 → ∃ B', gX9_book_h57 (N + d + 1) C s (a_c ok k) ((k + 1 : Nat) : Int) = gX9_book_b114 B' s (a_c ok H) ∧ (∀ a i : Int, a < 137 ∨ (138 < a ∧ a ≠ 141) → k_rd B' a i = k_rd A a i) ∧ (∀ i : Nat, i < a_c ok H → k_rd B' 141 i = a_f ok H i) := by
        intro C fC gC n
        have n2 : ¬ (ok k = 1 ∧ a_c ok k < 6) := fun q => n q.1
        have e1 : a_c ok (k + 1) = a_c ok k := by rw [a_c, if_neg n2]
        have e2 : a_f ok (k + 1) = a_f ok k := by rw [a_f, if_neg n2]
        have := ih N (k + 1) C (by omega) fC (by rw [e1, e2]; exact gC)
        rw [e1] at this
        exact this
      by_cases z : G k = 0
      · rw [if_pos z]
        exact skip B f g (fun q => by rw [okk, if_neg (by omega)] at q; omega)
      · rw [if_neg z]
        obtain ⟨C, f1, f2⟩ := hv k hk.1 hk.2 B f
        rw [f1, k_bds]
        have fC : ∀ a i : Int, a < 137 ∨ (138 < a ∧ a ≠ 141) → k_rd C a i = k_rd A a i := fun a i q => by rw [f2 a i (by omega), f a i q]
        have gC : ∀ i : Nat, i < a_c ok k → k_rd C 141 i = a_f ok k i := fun i q => by rw [f2 _ _ (by omega)]; exact g i q
        by_cases v1 : v k = 1
        · have ok1 : ok k = 1 := by rw [okk, if_pos ⟨by omega, v1⟩]
          have e1 : a_c ok (k + 1) = a_c ok k + 1 := by rw [a_c, if_pos ⟨ok1, full⟩]
          have e2 : a_f ok (k + 1) = q_up (a_f ok k) (a_c ok k) k := by rw [a_f, if_pos ⟨ok1, full⟩]
          have ec : k_wr ((a_c ok k : Int) + 1) = ((a_c ok k + 1 : Nat) : Int) := by rw [k_wr_of (by omega) (by omega)]; omega
          rw [if_pos v1, if_pos (by omega), p_lt, ec]
          have := ih N (k + 1) (k_wt C 141 (a_c ok k) k) (by omega) (fun a i q => by rw [p_rwn (by omega)]; exact fC a i q) (fun i hi => by
            rw [e1] at hi
            rw [e2, p_rw]
            by_cases y : (i : Int) = (a_c ok k : Int)
            · rw [if_pos ⟨rfl, y⟩, y, q_upe]
            · rw [if_neg (fun q => y q.2), q_upn y]; exact gC i (by omega))
          rw [e1] at this
          exact this
        · rw [if_neg v1]
          exact skip C fC gC (fun q => by rw [okk, if_neg (fun w => v1 w.2)] at q; omega)
    · have c66 : a_c ok k = 6 := by omega
      have fl := a_full c66 (d + 1)
      rw [show k + (d + 1) = H by omega] at fl
      refine ⟨B, ?_, f, fun i hi => by rw [fl.2]; exact g i (by omega)⟩
      rw [gX9_book_h57, f _ _ (by omega), hH, if_pos (by omega), if_neg (by omega), fl.1, c66]
theorem m_gone {B : k_H} {s mn fr : Int} (hs : 0 ≤ s ∧ s < 6) (hfr : k_rd B 132 s = fr) (f0 : 0 ≤ fr ∧ fr ≤ 13) {L : Nat} (hL : L = 22050) : gX9_book_b114 B s mn = gX9_book_h165 k_FU (k_wt (e_sd (tw_w B 149 0 (fun _ => 0) L) fr 0 (-1) 0 0 0) 142 fr (-1)) s mn (-1) fr := by
  have st := p_it (fun N (p : k_H × Int) => gX9_book_h116 N p.1 s mn p.2) (fun k => (tw_w B 149 0 (fun _ => 0) k, (k : Int))) L (fun N k hk => by
    show gX9_book_h116 (N + 1) (tw_w B 149 0 (fun _ => 0) k) s mn k = gX9_book_h116 N (k_wt (tw_w B 149 0 (fun _ => 0) k) 149 (0 + k) 0) s mn ((k + 1 : Nat) : Int)
    rw [gX9_book_h116, if_pos (by omega), if_pos (by omega), p_lt, k_wr_of (x := (k : Int) + 1) (by omega) (by omega), Int.zero_add]
    rfl)
  obtain ⟨N, hN⟩ := p_FU (L + 1) (by have : k_FU = 1073741824 := rfl; omega)
  have e : k_FU = (N + 1) + L := by omega
  have s1 : gX9_book_h116 ((N + 1) + L) B s mn 0 = gX9_book_h116 (N + 1) (tw_w B 149 0 (fun _ => 0) L) s mn L := st (N + 1)
  have s2 : gX9_book_h116 (N + 1) (tw_w B 149 0 (fun _ => 0) L) s mn L = gX9_book_h165 k_FU (k_wt (e_sd (tw_w B 149 0 (fun _ => 0) L) fr 0 (-1) 0 0 0) 142 fr (-1)) s mn (-1) fr := by
    have r133 : k_rd (tw_w B 149 0 (fun _ => 0) L) 132 s = fr := by rw [tw_n (by omega)]; exact hfr
    rw [gX9_book_h116, if_neg (by omega), if_pos (by omega), r133, m_stand (by omega), k_bds, if_pos (by omega), p_lt]
  unfold gX9_book_b114
  rw [← s2, ← s1, ← e]
theorem m_out {s M fr to : Int} (hs : 0 ≤ s ∧ s < 6) (h0 : 0 ≤ fr) (ht : to ≤ 13) : ∀ (d N : Nat) (A : k_H) (j : Int), j + d = to + 1 → fr ≤ j → k_rd A 133 s = to → ∃ A', gX9_book_h370 (N + d + 1) A s M j = some (M, A') ∧ (∀ a i : Int, a ≠ 139 → k_rd A' a i = k_rd A a i) ∧ (∀ i : Int, i < 14 * s + j ∨ 14 * s + to < i → k_rd A' 139 i = k_rd A 139 i) ∧ ∀ x : Int, j ≤ x → x ≤ to → k_rd A' 139 (14 * s + x) = k_rd A 148 x := by
  intro d
  induction d with
  | zero =>
    intro N A j jd jf h4
    refine ⟨A, ?_, fun _ _ _ => rfl, fun _ _ => rfl, fun x a b => by omega⟩
    rw [gX9_book_h370, if_pos (by omega), h4, if_neg (by omega)]
  | succ d ih =>
    intro N A j jd jf h4
    show ∃ A', gX9_book_h370 ((N + d + 1) + 1) A s M j = _ ∧ _
    rw [gX9_book_h370, if_pos (by omega), h4, if_pos (by omega), if_pos (by omega), k_wr_of (x := 14 * s) (by omega) (by omega), k_wr_of (x := 14 * s + j) (by omega) (by omega), if_pos (by omega), p_lt, k_wr_of (x := j + 1) (by omega) (by omega)]
    obtain ⟨A', e1, e2, e3, e4⟩ := ih N (k_wt A 139 (14 * s + j) (k_rd A 148 j)) (j + 1) (by omega) (by omega) (by rw [p_rwn (by omega)]; exact h4)
    refine ⟨A', e1, fun a i q => by rw [e2 a i q, p_rwn (Or.inl q)], fun i q => by rw [e3 i (by omega), p_rwn (by omega)], fun x a b => ?_⟩
    by_cases z : x = j
    · rw [z, e3 _ (by omega), p_rwe]
    · rw [e4 x (by omega) b, p_rwn (by omega)]
