/-! tools over the picture's reads and writes -/
theorem p_rw (A : k_H) (a i v b j : Int) : k_rd (k_wt A a i v) b j = if b = a ∧ j = i then v else k_rd A b j := rfl
theorem p_rwn {A : k_H} {a i v b j : Int} (h : b ≠ a ∨ j ≠ i) : k_rd (k_wt A a i v) b j = k_rd A b j := by
  rw [p_rw, if_neg]
  rintro ⟨h1, h2⟩
  rcases h with h | h
  · exact h h1
  · exact h h2
theorem p_rwe {A : k_H} {a i v : Int} : k_rd (k_wt A a i v) a i = v := by rw [p_rw, if_pos ⟨rfl, rfl⟩]
theorem p_rcp (A : k_H) (a0 sp a dp n b j : Int) : k_rd (k_cp A a0 sp a dp n) b j = if b = a ∧ dp ≤ j ∧ j < dp + n then k_rd A a0 (sp + (j - dp)) else k_rd A b j := rfl
theorem p_FU (n : Nat) (h : n ≤ k_FU) : ∃ N, k_FU = N + n := ⟨k_FU - n, by omega⟩
theorem p_lt (x : k_H) (g : k_H → Option (Int × k_H)) : k_lt x g = g x := rfl
theorem p_ofn (x : Int) : (Int32.ofInt x).toBitVec.toNat = (x % 4294967296).toNat := by
  rw [Int32.toBitVec_ofInt, BitVec.toNat_ofInt]; rfl
theorem p_toInt (a : Int32) (h : a.toBitVec.toNat < 2147483648) : a.toInt = (a.toBitVec.toNat : Int) := by
  show a.toBitVec.toInt = _
  rw [BitVec.toInt_eq_toNat_cond, if_pos (by omega)]
theorem p_andN (a : Int32) : (a &&& Int32.ofInt 255).toInt = ((a.toBitVec.toNat % 256 : Nat) : Int) := by
  have h : (a &&& Int32.ofInt 255).toBitVec.toNat = a.toBitVec.toNat % 256 := by
    rw [Int32.toBitVec_and, BitVec.toNat_and]
    exact Nat.and_two_pow_sub_one_eq_mod _ 8
  rw [p_toInt _ (by omega), h]
theorem p_and255 (x : Int) : k_and x 255 = x % 256 := by
  unfold k_and
  rw [p_andN, p_ofn]; omega
theorem p_b8 (x : Int) : k_b8 x = Int.bmod (k_wr x) 256 := by
  unfold k_b8 k_wr
  rw [Int8.toInt_toInt32, Int32.toInt_toInt8]
theorem p_wr (x : Int) : k_wr x = Int.bmod x 4294967296 := by
  unfold k_wr
  rw [Int32.toInt_ofInt]
theorem p_b8m (x : Int) : k_b8 x % 256 = x % 256 := by
  rw [p_b8, p_wr, Int.bmod_def, Int.bmod_def]; split <;> split <;> omega
theorem p_b8z (x : Int) : k_b8 x = 0 ↔ x % 256 = 0 := by
  rw [p_b8, p_wr, Int.bmod_def, Int.bmod_def]; split <;> split <;> omega
theorem p_shr {x s : Int} (hx : -2147483648 ≤ x ∧ x < 2147483648) (hs : 0 ≤ s ∧ s < 32) : k_shr x s = x / (2 ^ s.toNat : Nat) := by
  unfold k_shr
  show (Int32.ofInt x >>> (Int32.ofInt s &&& 31)).toBitVec.toInt = _
  rw [Int32.toBitVec_shiftRight]
  have e1 : ((Int32.ofInt s &&& 31).toBitVec.smod 32) = BitVec.ofNat 32 s.toNat := by
    obtain ⟨n, rfl⟩ : ∃ n : Nat, s = n := ⟨s.toNat, by omega⟩
    have : ∀ n : Nat, n < 32 → ((Int32.ofInt (n : Int) &&& 31).toBitVec.smod 32) = BitVec.ofNat 32 (n : Int).toNat := by decide +kernel
    exact this n (by omega)
  rw [e1]
  show ((Int32.ofInt x).toBitVec.sshiftRight (BitVec.ofNat 32 s.toNat).toNat).toInt = _
  rw [BitVec.toInt_sshiftRight, Int.shiftRight_eq_div_pow]
  have e2 : (Int32.ofInt x).toBitVec.toInt = x := Int32.toInt_ofInt_of_le hx.1 hx.2
  have e3 : (BitVec.ofNat 32 s.toNat).toNat = s.toNat := by rw [BitVec.toNat_ofNat]; omega
  rw [e2, e3]
theorem p_ushrN {x s : Int} (hs : 0 ≤ s ∧ s < 32) : (((Int32.ofInt x).toUInt32 >>> ((Int32.ofInt s).toUInt32 &&& Int32.toUInt32 31)).toInt32).toBitVec.toNat = (x % 4294967296).toNat / 2 ^ s.toNat := by
  show ((Int32.ofInt x).toUInt32 >>> ((Int32.ofInt s).toUInt32 &&& Int32.toUInt32 31)).toNat = _
  rw [UInt32.toNat_shiftRight]
  have e1 : ((Int32.ofInt s).toUInt32 &&& Int32.toUInt32 31).toNat % 32 = s.toNat := by
    obtain ⟨n, rfl⟩ : ∃ n : Nat, s = n := ⟨s.toNat, by omega⟩
    have : ∀ n : Nat, n < 32 → ((Int32.ofInt (n : Int)).toUInt32 &&& Int32.toUInt32 31).toNat % 32 = (n : Int).toNat := by decide +kernel
    exact this n (by omega)
  rw [e1, Nat.shiftRight_eq_div_pow]
  show (Int32.ofInt x).toBitVec.toNat / _ = _
  rw [p_ofn]
theorem p_ofI (a : Int32) : Int32.ofInt a.toInt = a := Int32.ofInt_toInt a
theorem p_ub {x : Int} (hx : -2147483648 ≤ x ∧ x < 2147483648) {s : Int} (hs : s = 24 ∨ s = 16 ∨ s = 8 ∨ s = 0) : k_and (k_ushr x s) 255 = k_b8 (k_b8 (k_shr x s)) % 256 ∧ (k_b8 (k_b8 (k_shr x s)) = 0 ↔ k_and (k_ushr x s) 255 = 0) := by
  have e : k_and (k_ushr x s) 255 = k_shr x s % 256 := by
    unfold k_and k_ushr
    rw [p_ofI, p_andN, p_ushrN (by omega), p_shr hx (by omega)]
    rcases hs with h | h | h | h <;> subst h
    · show ((((x % 4294967296).toNat / 16777216 % 256 : Nat)) : Int) = x / 16777216 % 256; omega
    · show ((((x % 4294967296).toNat / 65536 % 256 : Nat)) : Int) = x / 65536 % 256; omega
    · show ((((x % 4294967296).toNat / 256 % 256 : Nat)) : Int) = x / 256 % 256; omega
    · show ((((x % 4294967296).toNat / 1 % 256 : Nat)) : Int) = x / 1 % 256; omega
  rw [e, p_b8m, p_b8m]
  refine ⟨rfl, ?_⟩
  rw [p_b8z, p_b8m]
