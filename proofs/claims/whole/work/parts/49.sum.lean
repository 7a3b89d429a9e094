/-! sharing, both sides -/
theorem p_sumA {f : Int → Int} {B : Int} : ∀ n : Nat, (∀ i : Int, 0 ≤ i → i < n → -B ≤ f i ∧ f i ≤ B) → -(n * B) ≤ p_sum f n ∧ p_sum f n ≤ n * B := by
  intro n
  induction n with
  | zero => intro _; simp [p_sum]
  | succ n ih =>
    intro h
    have h1 := ih (fun i a b => h i a (by omega))
    have h2 := h n (by omega) (by omega)
    have e : ((n + 1 : Nat) : Int) * B = n * B + B := by rw [Int.natCast_add, Int.add_mul]; simp
    rw [e]
    show -(n * B + B) ≤ p_sum f n + f n ∧ p_sum f n + f n ≤ _
    omega
def y_A (A : k_H) (s p w : Int) : Int := y_an p (k_rd A 150 (12 * s) + p_sum (y_f (y_sh A s) (y_ab A s) ((k_rd A 150 (12 * s + 1)).toNat : Nat) p) (k_rd A 150 (12 * s + 1)).toNat) (y_g (k_rd A 150 (12 * s)) (k_rd A 150 (12 * s + 8)) (k_rd A 150 (12 * s + 9))) (k_rd A 150 (12 * s + 10)) w
theorem y_okM {A : k_H} (r : r_M A) {s : Int} (hs : 0 ≤ s ∧ s < 6) : y_ok (y_sh A s) (y_ab A s) (k_rd A 150 (12 * s + 1)).toNat := by
  have q := r s hs.1 hs.2
  intro k k0 k1
  have z := q.2.2.2.2.2 k k0 (by omega)
  unfold y_sh y_ab
  omega
theorem m_shareR {A : k_H} (r : r_M A) {s p w : Int} (hw : 0 ≤ w ∧ w ≤ 3) (hs : 0 ≤ s ∧ s < 6) (hp : 0 ≤ p ∧ p ≤ 1000000) : gX9_shareOf A s p w = some (y_A A s p w, A) := by
  have q := r s hs.1 hs.2
  exact m_share hw hs (by omega) (by omega) q.1.2 q.2.2.1.2 q.2.2.2.1.2 q.2.2.2.2.1.2 (y_okM r hs) hp
theorem c_partR {A : k_H} (r : r_M A) {s p w night : Int} (hw : 0 ≤ w ∧ w ≤ 3) (hs : 0 ≤ s ∧ s < 6) (hn : 0 ≤ night ∧ night < 14) (hd : k_rd A (72 + 8 * s + 4) night = p) (hp : 0 ≤ p ∧ p ≤ 1000000) : gX4_partOfDoor A (72 + 8 * s) night w = some (y_A A s p w, A) := by
  have q := r s hs.1 hs.2
  have ok : y_ok (k_rd A (72 + 8 * s + 5 + 1)) (k_rd A (72 + 8 * s + 5 + 2)) (k_rd A 150 (12 * s + 1)).toNat := by
    intro k k0 k1
    have z := q.2.2.2.2.2 k k0 (by omega)
    omega
  rw [c_part (n := (k_rd A 150 (12 * s + 1)).toNat) hw hn hd (by omega) (by omega) (by omega) (by omega) (by omega) ok hp]
  have e : p_sum (y_f (k_rd A (72 + 8 * s + 5 + 1)) (k_rd A (72 + 8 * s + 5 + 2)) ((k_rd A 150 (12 * s + 1)).toNat : Nat) p) (k_rd A 150 (12 * s + 1)).toNat = p_sum (y_f (y_sh A s) (y_ab A s) ((k_rd A 150 (12 * s + 1)).toNat : Nat) p) (k_rd A 150 (12 * s + 1)).toNat := by
    refine p_sumE _ (fun k k0 k1 => ?_)
    have z := q.2.2.2.2.2 k k0 (by omega)
    unfold y_f y_up
    rw [z.1.1, z.2.1]
    by_cases y : k + 1 < ((k_rd A 150 (12 * s + 1)).toNat : Nat)
    · have z2 := q.2.2.2.2.2 (k + 1) (by omega) (by omega)
      rw [if_pos y, if_pos y, z2.2.1]; rfl
    · rw [if_neg y, if_neg y]; rfl
  rw [e, q.1.1, q.2.2.1.1, q.2.2.2.1.1, q.2.2.2.2.1.1]
  rfl
theorem y_Ab {A : k_H} (r : r_M A) {s p w : Int} (hs : 0 ≤ s ∧ s < 6) (hp : 0 ≤ p ∧ p ≤ 1000000) : -9000000 ≤ y_A A s p w ∧ y_A A s p w ≤ 9000000 := by
  have q := r s hs.1 hs.2
  have b := y_sB (y_okM r hs) hp (k_rd A 150 (12 * s + 1)).toNat (by omega)
  have gp := (y_part ⟨q.1.2.1, (by omega : k_rd A 150 (12 * s) ≤ 1000000)⟩ q.2.2.1.2).2
  unfold y_A y_an y_g y_more
  generalize k_rd A 150 (12 * s) * k_rd A 150 (12 * s + 8) / 100 = Q at *
  generalize p_sum (y_f (y_sh A s) (y_ab A s) ((k_rd A 150 (12 * s + 1)).toNat : Nat) p) (k_rd A 150 (12 * s + 1)).toNat = S at *
  split
  · omega
  · split
    · split <;> omega
    · split
      · split <;> omega
      · omega
