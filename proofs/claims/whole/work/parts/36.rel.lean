/-! the two halves of the heap, held together -/
def r_T (A : k_H) : Prop := k_rd A 1 1 = k_rd A 120 2 ∧ 0 ≤ k_rd A 120 2 ∧ k_rd A 120 2 ≤ 200 ∧ ∀ i : Int, 0 ≤ i → i < 200 → k_rd A 2 i = k_rd A 121 i % 256 ∧ (k_rd A 121 i = 0 ↔ k_rd A 2 i = 0)
def r_H (A : k_H) : Prop := k_rd A 0 6 = k_rd A 120 20 ∧ 0 ≤ k_rd A 120 20 ∧ k_rd A 120 20 ≤ 12 ∧ ∀ h : Int, 0 ≤ h → h < 12 → (k_rd A (24 + 4 * h) 2 = k_rd A 122 h ∧ 0 ≤ k_rd A 122 h ∧ k_rd A 122 h ≤ 99) ∧ (k_rd A (24 + 4 * h) 3 = k_rd A 123 h ∧ 0 ≤ k_rd A 123 h ∧ k_rd A 123 h ≤ 99) ∧ k_rd A (24 + 4 * h) 4 = k_rd A 124 h ∧ k_rd A (24 + 4 * h) 5 = k_rd A 125 h ∧ (k_rd A (24 + 4 * h + 1) 1 = k_rd A 126 h ∧ 0 ≤ k_rd A 126 h ∧ k_rd A 126 h ≤ 4 ∧ (h < k_rd A 120 20 → 1 ≤ k_rd A 126 h)) ∧ ∀ c : Int, 0 ≤ c → c < 4 → k_rd A (24 + 4 * h + 1 + 1) c = k_rd A 127 (4 * h + c) ∧ 0 ≤ k_rd A 127 (4 * h + c) ∧ k_rd A 127 (4 * h + c) ≤ 255
def r_G (A : k_H) : Prop := ∀ h s : Int, 0 ≤ h → h < 12 → 0 ≤ s → s < 6 → k_rd A (24 + 4 * h + 3) s = k_rd A 136 (6 * h + s) ∧ 0 ≤ k_rd A 136 (6 * h + s) ∧ k_rd A 136 (6 * h + s) ≤ 10 ∧ (k_rd A 120 21 ≤ s → k_rd A 136 (6 * h + s) = 0)
def r_S (A : k_H) : Prop := k_rd A 0 7 = k_rd A 120 21 ∧ 0 ≤ k_rd A 120 21 ∧ k_rd A 120 21 ≤ 6 ∧ ∀ s : Int, 0 ≤ s → s < 6 → k_rd A (72 + 8 * s) 4 = k_rd A 128 s ∧ k_rd A (72 + 8 * s) 5 = k_rd A 129 s ∧ (k_rd A (72 + 8 * s + 1) 1 = k_rd A 130 s ∧ 0 ≤ k_rd A 130 s ∧ k_rd A 130 s ≤ 8) ∧ (∀ l : Int, 0 ≤ l → l < 8 → k_rd A (72 + 8 * s + 1 + 1) l = k_rd A 131 (8 * s + l) ∧ 0 ≤ k_rd A 131 (8 * s + l) ∧ k_rd A 131 (8 * s + l) ≤ 255) ∧ (s < k_rd A 120 21 → k_rd A (72 + 8 * s) 6 = k_rd A 132 s ∧ k_rd A (72 + 8 * s) 7 = k_rd A 133 s ∧ k_rd A (72 + 8 * s) 8 = k_rd A 134 s ∧ k_rd A (72 + 8 * s) 9 = k_rd A 135 s ∧ 0 ≤ k_rd A 132 s ∧ k_rd A 132 s ≤ k_rd A 133 s ∧ k_rd A 133 s ≤ 13 ∧ 1 ≤ k_rd A 134 s ∧ k_rd A 134 s ≤ 200 ∧ 1 ≤ k_rd A 135 s ∧ k_rd A 135 s ≤ 14)
def r_L (A : k_H) : Prop := ∀ s n : Int, 0 ≤ s → s < 6 → 0 ≤ n → n < 14 → (s < k_rd A 120 21 → k_rd A (72 + 8 * s + 3) n = k_rd A 139 (14 * s + n) ∧ k_rd A (72 + 8 * s + 4) n = k_rd A 140 (14 * s + n)) ∧ (k_rd A 120 21 ≤ s → k_rd A (72 + 8 * s + 3) n = -1 ∧ k_rd A (72 + 8 * s + 4) n = -1) ∧ (-1 ≤ k_rd A (72 + 8 * s + 3) n ∧ k_rd A (72 + 8 * s + 3) n < k_rd A 120 20 ∧ -1 ≤ k_rd A (72 + 8 * s + 4) n ∧ k_rd A (72 + 8 * s + 4) n ≤ 1000000) ∧ ∀ t : Int, 0 ≤ t → t < 6 → t ≠ s → k_rd A (72 + 8 * t + 3) n = k_rd A (72 + 8 * s + 3) n → k_rd A (72 + 8 * s + 3) n = -1
def r_M (A : k_H) : Prop := ∀ s : Int, 0 ≤ s → s < 6 → (k_rd A (72 + 8 * s + 5) 3 = k_rd A 150 (12 * s) ∧ 0 ≤ k_rd A 150 (12 * s) ∧ k_rd A 150 (12 * s) ≤ 99999) ∧ (k_rd A (72 + 8 * s + 5) 2 = k_rd A 150 (12 * s + 1) ∧ 0 ≤ k_rd A 150 (12 * s + 1) ∧ k_rd A 150 (12 * s + 1) ≤ 3) ∧ (k_rd A (72 + 8 * s + 5) 4 = k_rd A 150 (12 * s + 8) ∧ 0 ≤ k_rd A 150 (12 * s + 8) ∧ k_rd A 150 (12 * s + 8) ≤ 100) ∧ (k_rd A (72 + 8 * s + 5) 5 = k_rd A 150 (12 * s + 9) ∧ 0 ≤ k_rd A 150 (12 * s + 9) ∧ k_rd A 150 (12 * s + 9) ≤ 99999) ∧ (k_rd A (72 + 8 * s + 5) 6 = k_rd A 150 (12 * s + 10) ∧ 0 ≤ k_rd A 150 (12 * s + 10) ∧ k_rd A 150 (12 * s + 10) ≤ 1) ∧ ∀ k : Int, 0 ≤ k → k < k_rd A 150 (12 * s + 1) → (k_rd A (72 + 8 * s + 5 + 1) k = k_rd A 150 (12 * s + 2 + k) ∧ 0 ≤ k_rd A 150 (12 * s + 2 + k) ∧ k_rd A 150 (12 * s + 2 + k) ≤ 100) ∧ k_rd A (72 + 8 * s + 5 + 2) k = k_rd A 150 (12 * s + 5 + k) ∧ 0 ≤ k_rd A 150 (12 * s + 5 + k) ∧ k_rd A 150 (12 * s + 5 + k) ≤ 99999
def r_F (A : k_H) : Prop := k_rd A 18 2 = k_rd A 120 39
def p_T (a i : Int) : Prop := a = 1 ∨ a = 2 ∨ a = 121 ∨ (a = 120 ∧ i = 2)
def p_H (a i : Int) : Prop := (a = 0 ∧ i = 6) ∨ (a = 120 ∧ i = 20) ∨ (24 ≤ a ∧ a < 72 ∧ (a - 24) % 4 ≠ 3) ∨ (122 ≤ a ∧ a ≤ 127)
def p_G (a i : Int) : Prop := (a = 120 ∧ i = 21) ∨ (24 ≤ a ∧ a < 72 ∧ (a - 24) % 4 = 3) ∨ a = 136
def p_S (a i : Int) : Prop := (a = 0 ∧ i = 7) ∨ (a = 120 ∧ i = 21) ∨ (72 ≤ a ∧ a < 120 ∧ (a - 72) % 8 < 3) ∨ (128 ≤ a ∧ a ≤ 135)
def p_L (a i : Int) : Prop := (a = 120 ∧ i = 20) ∨ (a = 120 ∧ i = 21) ∨ (72 ≤ a ∧ a < 120 ∧ ((a - 72) % 8 = 3 ∨ (a - 72) % 8 = 4)) ∨ a = 139 ∨ a = 140
def p_M (a i : Int) : Prop := (72 ≤ a ∧ a < 120 ∧ 4 < (a - 72) % 8) ∨ (a = 150 ∧ i < 72)
def p_F (a i : Int) : Prop := (a = 18 ∧ i = 2) ∨ (a = 120 ∧ i = 39)
def p_ag (P : Int → Int → Prop) (A B : k_H) : Prop := ∀ a i, P a i → k_rd B a i = k_rd A a i
section
variable {A B : k_H}
theorem p_fT (h : p_ag p_T A B) (r : r_T A) : r_T B := by
  unfold r_T
  rw [h 1 1 (by unfold p_T; omega), h 120 2 (by unfold p_T; omega)]
  refine ⟨r.1, r.2.1, r.2.2.1, fun i h0 h1 => ?_⟩
  rw [h 2 i (by unfold p_T; omega), h 121 i (by unfold p_T; omega)]
  exact r.2.2.2 i h0 h1
theorem p_fH (h : p_ag p_H A B) (r : r_H A) : r_H B := by
  unfold r_H
  rw [h 0 6 (by unfold p_H; omega), h 120 20 (by unfold p_H; omega)]
  refine ⟨r.1, r.2.1, r.2.2.1, fun x h0 h1 => ?_⟩
  rw [h (24 + 4 * x) 2 (by unfold p_H; omega), h (24 + 4 * x) 3 (by unfold p_H; omega), h (24 + 4 * x) 4 (by unfold p_H; omega), h (24 + 4 * x) 5 (by unfold p_H; omega), h (24 + 4 * x + 1) 1 (by unfold p_H; omega), h 122 x (by unfold p_H; omega), h 123 x (by unfold p_H; omega), h 124 x (by unfold p_H; omega), h 125 x (by unfold p_H; omega), h 126 x (by unfold p_H; omega)]
  have q := r.2.2.2 x h0 h1
  refine ⟨q.1, q.2.1, q.2.2.1, q.2.2.2.1, q.2.2.2.2.1, fun c h2 h3 => ?_⟩
  rw [h (24 + 4 * x + 1 + 1) c (by unfold p_H; omega), h 127 (4 * x + c) (by unfold p_H; omega)]
  exact q.2.2.2.2.2 c h2 h3
theorem p_fG (h : p_ag p_G A B) (r : r_G A) : r_G B := by
  unfold r_G
  rw [h 120 21 (by unfold p_G; omega)]
  intro x s h0 h1 h2 h3
  rw [h (24 + 4 * x + 3) s (by unfold p_G; omega), h 136 (6 * x + s) (by unfold p_G; omega)]
  exact r x s h0 h1 h2 h3
theorem p_fS (h : p_ag p_S A B) (r : r_S A) : r_S B := by
  unfold r_S
  rw [h 0 7 (by unfold p_S; omega), h 120 21 (by unfold p_S; omega)]
  refine ⟨r.1, r.2.1, r.2.2.1, fun x h0 h1 => ?_⟩
  have q := r.2.2.2 x h0 h1
  rw [h (72 + 8 * x) 4 (by unfold p_S; omega), h (72 + 8 * x) 5 (by unfold p_S; omega), h (72 + 8 * x) 6 (by unfold p_S; omega), h (72 + 8 * x) 7 (by unfold p_S; omega), h (72 + 8 * x) 8 (by unfold p_S; omega), h (72 + 8 * x) 9 (by unfold p_S; omega), h (72 + 8 * x + 1) 1 (by unfold p_S; omega), h 128 x (by unfold p_S; omega), h 129 x (by unfold p_S; omega), h 130 x (by unfold p_S; omega), h 132 x (by unfold p_S; omega), h 133 x (by unfold p_S; omega), h 134 x (by unfold p_S; omega), h 135 x (by unfold p_S; omega)]
  refine ⟨q.1, q.2.1, q.2.2.1, fun c h2 h3 => ?_, q.2.2.2.2⟩
  rw [h (72 + 8 * x + 1 + 1) c (by unfold p_S; omega), h 131 (8 * x + c) (by unfold p_S; omega)]
  exact q.2.2.2.1 c h2 h3
theorem p_fL (h : p_ag p_L A B) (r : r_L A) : r_L B := by
  unfold r_L
  rw [h 120 21 (by unfold p_L; omega), h 120 20 (by unfold p_L; omega)]
  intro s n h0 h1 h2 h3
  have q := r s n h0 h1 h2 h3
  rw [h (72 + 8 * s + 3) n (by unfold p_L; omega), h (72 + 8 * s + 4) n (by unfold p_L; omega), h 139 (14 * s + n) (by unfold p_L; omega), h 140 (14 * s + n) (by unfold p_L; omega)]
  refine ⟨q.1, q.2.1, q.2.2.1, fun t t0 t1 => ?_⟩
  rw [h (72 + 8 * t + 3) n (by unfold p_L; omega)]
  exact q.2.2.2 t t0 t1
theorem p_fM (h : p_ag p_M A B) (r : r_M A) : r_M B := by
  unfold r_M
  intro s h0 h1
  have q := r s h0 h1
  rw [h (72 + 8 * s + 5) 2 (by unfold p_M; omega), h (72 + 8 * s + 5) 3 (by unfold p_M; omega), h (72 + 8 * s + 5) 4 (by unfold p_M; omega), h (72 + 8 * s + 5) 5 (by unfold p_M; omega), h (72 + 8 * s + 5) 6 (by unfold p_M; omega), h 150 (12 * s) (by unfold p_M; omega), h 150 (12 * s + 1) (by unfold p_M; omega), h 150 (12 * s + 8) (by unfold p_M; omega), h 150 (12 * s + 9) (by unfold p_M; omega), h 150 (12 * s + 10) (by unfold p_M; omega)]
  refine ⟨q.1, q.2.1, q.2.2.1, q.2.2.2.1, q.2.2.2.2.1, fun k k0 k1 => ?_⟩
  rw [h (72 + 8 * s + 5 + 1) k (by unfold p_M; omega), h (72 + 8 * s + 5 + 2) k (by unfold p_M; omega), h 150 (12 * s + 2 + k) (by unfold p_M; omega), h 150 (12 * s + 5 + k) (by unfold p_M; omega)]
  exact q.2.2.2.2.2 k k0 k1
theorem p_fF (h : p_ag p_F A B) (r : r_F A) : r_F B := by
  unfold r_F
  rw [h 18 2 (by unfold p_F; omega), h 120 39 (by unfold p_F; omega)]
  exact r
end
def Rel (A : k_H) : Prop := r_T A ∧ r_H A ∧ r_G A ∧ r_S A ∧ r_L A ∧ r_M A ∧ r_F A
def p_P (a i : Int) : Prop := p_T a i ∨ p_H a i ∨ p_G a i ∨ p_S a i ∨ p_L a i ∨ p_M a i ∨ p_F a i
theorem p_fr {A B : k_H} (h : p_ag p_P A B) (r : Rel A) : Rel B :=
  ⟨p_fT (fun a i q => h a i (Or.inl q)) r.1, p_fH (fun a i q => h a i (Or.inr (Or.inl q))) r.2.1, p_fG (fun a i q => h a i (Or.inr (Or.inr (Or.inl q)))) r.2.2.1, p_fS (fun a i q => h a i (Or.inr (Or.inr (Or.inr (Or.inl q))))) r.2.2.2.1, p_fL (fun a i q => h a i (Or.inr (Or.inr (Or.inr (Or.inr (Or.inl q)))))) r.2.2.2.2.1, p_fM (fun a i q => h a i (Or.inr (Or.inr (Or.inr (Or.inr (Or.inr (Or.inl q))))))) r.2.2.2.2.2.1, p_fF (fun a i q => h a i (Or.inr (Or.inr (Or.inr (Or.inr (Or.inr (Or.inr q))))))) r.2.2.2.2.2.2⟩
theorem p_agr {P : Int → Int → Prop} {A : k_H} : p_ag P A A := fun _ _ _ => rfl
theorem p_agt {P : Int → Int → Prop} {A B C : k_H} (h : p_ag P A B) (k : p_ag P B C) : p_ag P A C := fun a i q => (k a i q).trans (h a i q)
theorem p_agw {P : Int → Int → Prop} {A B : k_H} {a i v : Int} (h : p_ag P A B) (hn : ¬ P a i) : p_ag P A (k_wt B a i v) := by
  intro b j q
  rw [p_rw, if_neg]
  · exact h b j q
  · rintro ⟨rfl, rfl⟩; exact hn q
theorem p_agm {P Q : Int → Int → Prop} {A B : k_H} (h : p_ag Q A B) (hi : ∀ a i, P a i → Q a i) : p_ag P A B := fun a i q => h a i (hi a i q)
def p_ok (A : k_H) (X Y : k_H → Option (Int × k_H)) : Prop := ∃ r A1 A2, X A = some (r, A1) ∧ Y A1 = some (r, A2) ∧ Rel A2
