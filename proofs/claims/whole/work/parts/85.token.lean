/-! terms: what a run of letters and digits is -/
def x_pk (T : Int → Int) : Nat → Int → Int → Int
  | 0, _, w => w
  | k + 1, q, w => x_pk T k (q + 1) (w * 256 + T q)
theorem x_pkS {T : Int → Int} : ∀ (k : Nat) (q w : Int), x_pk T (k + 1) q w = x_pk T k q w * 256 + T (q + k) := by
  intro k
  induction k with
  | zero => intro q w; show w * 256 + T q = w * 256 + T (q + ((0 : Nat) : Int)); congr 2; omega
  | succ k ih =>
    intro q w
    rw [x_pk, ih (q + 1), x_pk]
    congr 2; omega
theorem x_pkP {T : Int → Int} : ∀ (k : Nat) (q : Int), (∀ i : Int, q ≤ i → i < q + k → 1 ≤ T i ∧ T i ≤ 255) → 0 ≤ x_pk T k q 0 ∧ (0 < k → 0 < x_pk T k q 0) := by
  intro k
  induction k with
  | zero => intro q _; exact ⟨Int.le_refl _, fun h => by omega⟩
  | succ k ih =>
    intro q h
    have h1 := ih q (fun i x y => h i x (by omega))
    have h2 := h (q + k) (by omega) (by omega)
    rw [x_pkS]
    exact ⟨by omega, fun _ => by omega⟩
theorem x_pkI {T C : Int → Int} {q r : Int} : ∀ (k m : Nat), (∀ i : Int, q ≤ i → i < q + k → 1 ≤ T i ∧ T i ≤ 255) → (∀ i : Int, r ≤ i → i < r + m → 1 ≤ C i ∧ C i ≤ 255) → (x_pk T k q 0 = x_pk C m r 0 ↔ k = m ∧ ∀ i : Int, 0 ≤ i → i < k → T (q + i) = C (r + i)) := by
  intro k
  induction k with
  | zero =>
    intro m _ hC
    have p := x_pkP m r hC
    constructor
    · intro e
      refine ⟨?_, fun i x y => by omega⟩
      by_cases z : m = 0
      · exact z.symm
      · have := p.2 (by omega)
        rw [← e] at this
        exact absurd this (by show ¬ (0 : Int) < 0; omega)
    · intro e
      rw [← e.1]; rfl
  | succ k ih =>
    intro m hT hC
    cases m with
    | zero =>
      have p := x_pkP (k + 1) q hT
      constructor
      · intro e
        have := p.2 (by omega)
        rw [e] at this
        exact absurd this (by show ¬ (0 : Int) < 0; omega)
      · intro e; omega
    | succ m =>
      have h1 := hT (q + k) (by omega) (by omega)
      have h2 := hC (r + m) (by omega) (by omega)
      have i1 := ih m (fun i x y => hT i x (by omega)) (fun i x y => hC i x (by omega))
      rw [x_pkS, x_pkS]
      constructor
      · intro e
        have e1 : T (q + k) = C (r + m) := by omega
        have e2 := i1.1 (by omega)
        refine ⟨by omega, fun i x y => ?_⟩
        by_cases z : i = k
        · have : (k : Int) = m := by omega
          rw [z, e1, this]
        · exact e2.2 i x (by omega)
      · intro e
        have e1 := i1.2 ⟨by omega, fun i x y => e.2 i x (by omega)⟩
        have e2 := e.2 k (by omega) (by omega)
        have : (k : Int) = m := by omega
        rw [e1, e2, this]
theorem b_sh8 {w c : Int} (hw : 0 ≤ w ∧ w < 36028797018963968) (hc : 0 ≤ c ∧ c ≤ 255) : k_lorr (k_lshl w 8) c = w * 256 + c := by
  obtain ⟨x, rfl⟩ : ∃ x : Nat, w = x := ⟨w.toNat, by omega⟩
  obtain ⟨y, rfl⟩ : ∃ y : Nat, c = y := ⟨c.toNat, by omega⟩
  have e1 : (Int64.ofInt (x : Int) <<< ((Int32.ofInt 8).toInt64 &&& 63)).toBitVec = (Int64.ofInt (x : Int)).toBitVec <<< 8 := by
    rw [Int64.toBitVec_shiftLeft]
    have : (((Int32.ofInt 8).toInt64 &&& 63).toBitVec.smod 64) = BitVec.ofNat 64 8 := by decide +kernel
    rw [this]
    rfl
  have n1 : (Int64.ofInt (x : Int)).toBitVec.toNat = x := by
    rw [Int64.toBitVec_ofInt, BitVec.toNat_ofInt]
    have : ((x : Int) % ((2 ^ 64 : Nat) : Int)).toNat = x := by
      have : ((2 ^ 64 : Nat) : Int) = 18446744073709551616 := by decide
      omega
    exact this
  have n2 : (Int64.ofInt (y : Int)).toBitVec.toNat = y := by
    rw [Int64.toBitVec_ofInt, BitVec.toNat_ofInt]
    have : ((y : Int) % ((2 ^ 64 : Nat) : Int)).toNat = y := by
      have : ((2 ^ 64 : Nat) : Int) = 18446744073709551616 := by decide
      omega
    exact this
  have n3 : ((Int64.ofInt (x : Int) <<< ((Int32.ofInt 8).toInt64 &&& 63)) ||| Int64.ofInt (y : Int)).toBitVec.toNat = x * 256 + y := by
    rw [Int64.toBitVec_or, BitVec.toNat_or, e1, n2, BitVec.toNat_shiftLeft, n1]
    have m1 : x <<< 8 % 2 ^ 64 = x <<< 8 := by
      rw [Nat.shiftLeft_eq]
      have : (2 : Nat) ^ 64 = 18446744073709551616 := by decide
      have : (2 : Nat) ^ 8 = 256 := by decide
      omega
    rw [m1, ← Nat.shiftLeft_add_eq_or_of_lt (show y < 2 ^ 8 by omega), Nat.shiftLeft_eq]
  unfold k_lorr k_lshl
  rw [Int64.ofInt_toInt]
  show (((Int64.ofInt (x : Int) <<< ((Int32.ofInt 8).toInt64 &&& 63)) ||| Int64.ofInt (y : Int)).toBitVec).toInt = _
  rw [BitVec.toInt_eq_toNat_cond, n3, if_pos (by omega)]
  omega
theorem x_p1 : ∀ k : Nat, (1 : Int) ≤ 256 ^ k := by
  intro k
  induction k with
  | zero => decide
  | succ k ih => rw [Int.pow_succ]; omega
theorem x_wP {T : Int → Int} : ∀ (k : Nat) (q n w P : Int), 0 ≤ n → n + k ≤ 8 → 0 ≤ w → w < P → P * 256 ^ k ≤ 9223372036854775808 → (∀ i : Int, q ≤ i → i < q + k → 0 ≤ T i ∧ T i ≤ 255) → x_w T k q n w = x_pk T k q w := by
  intro k
  induction k with
  | zero => intro q n w P _ _ _ _ _ _; rfl
  | succ k ih =>
    intro q n w P n0 n8 w0 wP hP h
    have c := h q (by omega) (by omega)
    have hp : P * 256 * 256 ^ k ≤ 9223372036854775808 := by
      rw [Int.pow_succ, ← Int.mul_assoc] at hP
      rw [Int.mul_assoc, Int.mul_comm 256, ← Int.mul_assoc]
      exact hP
    have p1 : P ≤ 36028797018963968 := by
      have h1 : (1 : Int) ≤ 256 ^ k := x_p1 k
      have h2 : P * 256 * 1 ≤ P * 256 * 256 ^ k := Int.mul_le_mul_of_nonneg_left h1 (by omega)
      omega
    rw [x_w, x_pk, if_pos (by omega), b_sh8 (by omega) c]
    exact ih (q + 1) (n + 1) (w * 256 + T q) (P * 256) (by omega) (by omega) (by omega) (by omega) hp (fun i x y => h i (by omega) (by omega))
theorem x_wE {T : Int → Int} {k : Nat} {f : Int} (hk : 1 ≤ k ∧ k ≤ 8) (h : ∀ i : Int, f ≤ i → i < f + k → 97 ≤ T i ∧ T i ≤ 122) : x_w T k f 0 0 = x_pk T k f 0 := by
  obtain ⟨m, rfl⟩ : ∃ m, k = m + 1 := ⟨k - 1, by omega⟩
  have c := h f (by omega) (by omega)
  have pw : ∀ m : Nat, m ≤ 7 → (123 : Int) * 256 ^ m ≤ 9223372036854775808 := by decide
  rw [x_w, x_pk, if_pos (by omega), b_sh8 (by omega) (by omega)]
  exact x_wP m (f + 1) (0 + 1) (0 * 256 + T f) 123 (by omega) (by omega) (by omega) (by omega) (pw m (by omega)) (fun i x y => by have := h i (by omega) (by omega); omega)
theorem x_vn {T : Int → Int} : ∀ (k : Nat) (q n v : Int), n + k ≤ 5 → (∀ i : Int, q ≤ i → i < q + k → x_l (T i) = 0) → x_v T k q v = x_n T k q n v := by
  intro k
  induction k with
  | zero => intro q n v _ _; rfl
  | succ k ih =>
    intro q n v h5 h
    rw [x_v, x_n, if_pos (h q (by omega) (by omega)), if_pos (by omega), Int.mul_comm v 10]
    exact ih (q + 1) (n + 1) _ (by omega) (fun i x y => h i (by omega) (by omega))
theorem x_vB {T : Int → Int} : ∀ (k : Nat) (q v P : Int), 0 ≤ v → v < P → P * 10 ^ k ≤ 100000 → (∀ i : Int, q ≤ i → i < q + k → x_l (T i) = 0 ∧ 48 ≤ T i ∧ T i ≤ 57) → 0 ≤ x_v T k q v ∧ x_v T k q v ≤ 99999 := by
  intro k
  induction k with
  | zero => intro q v P v0 vP hP _; rw [x_v]; rw [Int.pow_zero] at hP; omega
  | succ k ih =>
    intro q v P v0 vP hP h
    have c := h q (by omega) (by omega)
    have hp : P * 10 * 10 ^ k ≤ 100000 := by
      rw [Int.pow_succ, ← Int.mul_assoc] at hP
      rw [Int.mul_assoc, Int.mul_comm 10, ← Int.mul_assoc]
      exact hP
    have p1 : P ≤ 10000 := by
      have h1 : (1 : Int) ≤ 10 ^ k := by
        have : ∀ k : Nat, (1 : Int) ≤ 10 ^ k := by
          intro k
          induction k with
          | zero => decide
          | succ k ih => rw [Int.pow_succ]; omega
        exact this k
      have h2 : P * 10 * 1 ≤ P * 10 * 10 ^ k := Int.mul_le_mul_of_nonneg_left h1 (by omega)
      omega
    rw [x_v, if_pos c.1, k_wr_of (x := v * 10) (by omega) (by omega), k_wr_of (x := v * 10 + T q) (by omega) (by omega), k_wr_of (x := v * 10 + T q - 48) (by omega) (by omega)]
    exact ih (q + 1) _ (P * 10) (by omega) (by omega) hp (fun i x y => h i (by omega) (by omega))
theorem x_lcB {T : Int → Int} : ∀ (k : Nat) (q : Int), 0 ≤ q_af (x_lc T) k q ∧ q_af (x_lc T) k q ≤ k := by
  intro k
  induction k with
  | zero => intro q; rw [q_af]; omega
  | succ k ih =>
    intro q
    have h1 := ih (q + 1)
    have h2 : x_lc T q = 0 ∨ x_lc T q = 1 := x_l0 (T q)
    rw [q_af]; omega
theorem x_lcL {T : Int → Int} : ∀ (k : Nat) (q : Int), q_af (x_lc T) k q = k → ∀ i : Int, q ≤ i → i < q + k → x_l (T i) = 1 := by
  intro k
  induction k with
  | zero => intro q _ i x y; exfalso; omega
  | succ k ih =>
    intro q h i x y
    have h1 := x_lcB (T := T) k (q + 1)
    have h2 : x_lc T q = 0 ∨ x_lc T q = 1 := x_l0 (T q)
    rw [q_af] at h
    by_cases z : i = q
    · rw [z]
      have : x_lc T q = 1 := by omega
      exact this
    · exact ih (q + 1) (by omega) i (by omega) (by omega)
theorem x_lcD {T : Int → Int} : ∀ (k : Nat) (q : Int), q_af (x_lc T) k q = 0 → ∀ i : Int, q ≤ i → i < q + k → x_l (T i) = 0 := by
  intro k
  induction k with
  | zero => intro q _ i x y; exfalso; omega
  | succ k ih =>
    intro q h i x y
    have h1 := x_lcB (T := T) k (q + 1)
    have h2 : x_lc T q = 0 ∨ x_lc T q = 1 := x_l0 (T q)
    rw [q_af] at h
    by_cases z : i = q
    · rw [z]
      have : x_lc T q = 0 := by omega
      exact this
    · exact ih (q + 1) (by omega) i (by omega) (by omega)
theorem x_alZ {T : Int → Int} {sm : Int} : ∀ (k : Nat) (q : Int), x_al T sm k q 0 = 0 := by
  intro k
  induction k with
  | zero => intro q; rfl
  | succ k ih => intro q; rw [x_al, if_pos rfl]; exact ih (q + 1)
theorem x_al1 {T : Int → Int} : ∀ (k : Nat) (q : Int), x_al T 1 k q 1 = if q_af (x_lc T) k q = k then 1 else 0 := by
  intro k
  induction k with
  | zero => intro q; rw [x_al, q_af]; rfl
  | succ k ih =>
    intro q
    have h1 := x_lcB (T := T) k (q + 1)
    have h2 : x_lc T q = x_l (T q) := rfl
    rw [x_al, if_neg (by omega), q_af, h2]
    rcases x_l0 (T q) with z | z
    · rw [z, if_neg (by omega : ¬ (0 : Int) = 1), x_alZ, if_neg (by omega)]
    · rw [z, if_pos (rfl : (1 : Int) = 1), ih]
      by_cases y : q_af (x_lc T) k (q + 1) = k
      · rw [if_pos y, if_pos (by omega)]
      · rw [if_neg y, if_neg (by omega)]
theorem x_al0 {T : Int → Int} : ∀ (k : Nat) (q : Int), x_al T 0 k q 1 = if q_af (x_lc T) k q = 0 then 1 else 0 := by
  intro k
  induction k with
  | zero => intro q; rw [x_al, q_af, if_pos rfl]
  | succ k ih =>
    intro q
    have h1 := x_lcB (T := T) k (q + 1)
    have h2 : x_lc T q = x_l (T q) := rfl
    rw [x_al, if_neg (by omega), q_af, h2]
    rcases x_l0 (T q) with z | z
    · rw [z, if_pos (rfl : (0 : Int) = 0), ih]
      by_cases y : q_af (x_lc T) k (q + 1) = 0
      · rw [if_pos y, if_pos (by omega)]
      · rw [if_neg y, if_neg (by omega)]
    · rw [z, if_neg (by omega : ¬ (1 : Int) = 0), x_alZ, if_neg (by omega)]
