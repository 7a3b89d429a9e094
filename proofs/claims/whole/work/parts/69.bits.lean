/-! bits -/
theorem p_and1 (x : Int) : k_and x 1 = x % 2 := by
  have h : (Int32.ofInt x &&& Int32.ofInt 1).toBitVec.toNat = (Int32.ofInt x).toBitVec.toNat % 2 := by
    rw [Int32.toBitVec_and, BitVec.toNat_and]
    exact Nat.and_two_pow_sub_one_eq_mod _ 1
  unfold k_and
  rw [p_toInt _ (by omega), h, p_ofn]; omega
theorem b_has {x i : Nat} (hx : x < 2147483648) (hi : i < 31) : k_and (k_shr x i) 1 = if x.testBit i = true then 1 else 0 := by
  rw [p_and1, p_shr (by omega) (by omega), Int.toNat_natCast, Nat.testBit_eq_decide_div_mod_eq, ← Int.natCast_ediv]
  by_cases q : x / 2 ^ i % 2 = 1
  · rw [if_pos (by simpa using q)]; omega
  · rw [if_neg (by simpa using q)]; omega
theorem b_shl {i : Nat} (hi : i < 31) : k_shl 1 i = ((2 ^ i : Nat) : Int) := by
  have : ∀ i : Nat, i < 31 → k_shl 1 (i : Int) = ((2 ^ i : Nat) : Int) := by decide +kernel
  exact this i hi
theorem b_or {x i : Nat} (hx : x < 2147483648) (hi : i < 31) : k_or x (k_shl 1 i) = ((x ||| 2 ^ i : Nat) : Int) := by
  rw [b_shl hi]
  have hp : 2 ^ i < 2147483648 := Nat.pow_lt_pow_right (a := 2) (n := 31) (by omega) hi
  have ho : (x ||| 2 ^ i) < 2 ^ 31 := Nat.or_lt_two_pow hx hp
  have h : (Int32.ofInt (x : Int) ||| Int32.ofInt ((2 ^ i : Nat) : Int)).toBitVec.toNat = x ||| 2 ^ i := by
    rw [Int32.toBitVec_or, BitVec.toNat_or, p_ofn, p_ofn]
    have e1 : ((x : Int) % 4294967296).toNat = x := by omega
    have e2 : (((2 ^ i : Nat) : Int) % 4294967296).toNat = 2 ^ i := by
      generalize 2 ^ i = y at hp
      omega
    rw [e1, e2]
  unfold k_or
  rw [p_toInt _ (by rw [h]; exact ho), h]
theorem b_or64 {u i : Nat} (hu : u < 64) (hi : i < 6) : u ||| 2 ^ i < 64 := Nat.or_lt_two_pow (n := 6) hu (Nat.pow_lt_pow_right (a := 2) (n := 6) (by omega) hi)
def e_pc (u : Nat) : Int := (if u.testBit 0 = true then 1 else 0) + (if u.testBit 1 = true then 1 else 0) + (if u.testBit 2 = true then 1 else 0) + (if u.testBit 3 = true then 1 else 0) + (if u.testBit 4 = true then 1 else 0) + (if u.testBit 5 = true then 1 else 0)
theorem e_pcB (u : Nat) : 0 ≤ e_pc u ∧ e_pc u ≤ 6 := by
  have : ∀ b : Bool, 0 ≤ (if b = true then (1 : Int) else 0) ∧ (if b = true then (1 : Int) else 0) ≤ 1 := by decide
  have h0 := this (u.testBit 0)
  have h1 := this (u.testBit 1)
  have h2 := this (u.testBit 2)
  have h3 := this (u.testBit 3)
  have h4 := this (u.testBit 4)
  have h5 := this (u.testBit 5)
  unfold e_pc
  omega
theorem e_pcS {u i : Nat} (hu : u < 64) (hi : i < 6) (h : u.testBit i = false) : e_pc (u ||| 2 ^ i) = e_pc u + 1 := by
  have : ∀ u : Fin 64, ∀ i : Fin 6, u.val.testBit i.val = false → e_pc (u.val ||| 2 ^ i.val) = e_pc u.val + 1 := by decide +kernel
  exact this ⟨u, hu⟩ ⟨i, hi⟩ h
theorem e_pc1 {u i : Nat} (hu : u < 64) (hi : i < 6) (h : u.testBit i = true) : 1 ≤ e_pc u := by
  have : ∀ u : Fin 64, ∀ i : Fin 6, u.val.testBit i.val = true → 1 ≤ e_pc u.val := by decide +kernel
  exact this ⟨u, hu⟩ ⟨i, hi⟩ h
theorem c_bitc {A : k_H} {u : Nat} (hu : u < 64) : gJ6_bitCount_0f7a4 A u = some (e_pc u, A) := by
  unfold gJ6_bitCount_0f7a4 gJ6_bitCount_0f7a4_b0
  have e : ∀ x y : Int, x = y → some (x, A) = some (y, A) := fun x y h => by rw [h]
  apply e
  revert u
  decide +kernel
theorem c_has {A : k_H} {x i : Nat} (hx : x < 2147483648) (hi : i < 31) : gX2_has A x i = some (if x.testBit i = true then 1 else 0, A) := by
  unfold gX2_has gX2_has_b0
  rw [b_has hx hi]
  by_cases q : x.testBit i = true
  · rw [if_pos q, if_neg (by omega)]
  · rw [if_neg q, if_pos rfl]
/-! bits of a long -/
def b_l (x : Int) (k : Nat) : Bool := (Int64.ofInt x).toBitVec.getLsbD k
theorem b_l0 (k : Nat) : b_l 0 k = false := by
  unfold b_l
  show (0#64).getLsbD k = false
  simp
theorem b_lo {x : Int} {k j : Nat} (hk : k < 64) (hj : j < 64) : b_l (k_lorr x (k_lshl 1 k)) j = (b_l x j || decide (j = k)) := by
  have e : ∀ k : Fin 64, ∀ j : Fin 64, (Int64.ofInt (k_lshl 1 (k.val : Int))).toBitVec.getLsbD j.val = decide (j.val = k.val) := by decide +kernel
  unfold b_l k_lorr
  rw [Int64.ofInt_toInt, Int64.toBitVec_or, BitVec.getLsbD_or, e ⟨k, hk⟩ ⟨j, hj⟩]
theorem b_lh {x : Int} {k : Nat} (hk : k < 64) : k_landd (k_lshr x k) 1 = if b_l x k = true then 1 else 0 := by
  have e1 : (((Int32.ofInt (k : Int)).toInt64 &&& 63).toBitVec.smod 64) = BitVec.ofNat 64 k := by
    have : ∀ n : Nat, n < 64 → (((Int32.ofInt (n : Int)).toInt64 &&& 63).toBitVec.smod 64) = BitVec.ofNat 64 n := by decide +kernel
    exact this k hk
  have e2 : (Int64.ofInt x >>> ((Int32.ofInt (k : Int)).toInt64 &&& 63)).toBitVec = (Int64.ofInt x).toBitVec.sshiftRight k := by
    rw [Int64.toBitVec_shiftRight, e1]
    show (Int64.ofInt x).toBitVec.sshiftRight (BitVec.ofNat 64 k).toNat = _
    congr 1
    rw [BitVec.toNat_ofNat]; omega
  unfold k_landd k_lshr
  rw [Int64.ofInt_toInt]
  show (((Int64.ofInt x >>> ((Int32.ofInt (k : Int)).toInt64 &&& 63)) &&& Int64.ofInt 1).toBitVec).toInt = _
  rw [Int64.toBitVec_and, e2]
  have e3 : ((Int64.ofInt x).toBitVec.sshiftRight k).getLsbD 0 = b_l x k := by
    rw [BitVec.getLsbD_sshiftRight]
    have : k + 0 < 64 := by omega
    simp [this, b_l]
    intro q; omega
  have e4 : ∀ v : BitVec 64, (v &&& (Int64.ofInt 1).toBitVec).toInt = if v.getLsbD 0 = true then 1 else 0 := by
    intro v
    have n1 : (v &&& (Int64.ofInt 1).toBitVec).toNat = v.toNat % 2 := by
      rw [BitVec.toNat_and]
      exact Nat.and_two_pow_sub_one_eq_mod _ 1
    rw [BitVec.toInt_eq_toNat_cond, if_pos (by omega), n1]
    show _ = if v.toNat.testBit 0 = true then (1 : Int) else 0
    rw [Nat.testBit_zero]
    by_cases q : v.toNat % 2 = 1
    · rw [if_pos (by simpa using q)]; omega
    · rw [if_neg (by simpa using q)]; omega
  rw [e4, e3]
theorem e_ceil {d mi t : Int} (hd : 0 ≤ d) (hm : 1 ≤ mi) : Int.tdiv (d + mi - 1) mi ≤ t ↔ d ≤ mi * t := by
  rw [Int.tdiv_eq_ediv_of_nonneg (by omega)]
  have h := Int.ediv_lt_iff_lt_mul (a := d + mi - 1) (b := t + 1) (c := mi) (by omega)
  have e : (t + 1) * mi = mi * t + mi := by rw [Int.add_mul, Int.one_mul, Int.mul_comm]
  rw [e] at h
  constructor
  · intro q
    have := h.1 (by omega)
    omega
  · intro q
    have := h.2 (by omega)
    omega
/-! digits of a long, six bits each -/
def e_un (x r : Int) : Int := k_and (k_l2i (k_lushr x (k_wr (6 * r)))) 63
def e_d (X j : Nat) : Nat := (X >>> (6 * j)) % 2 ^ 6
theorem b_of64 (x : Int) : (Int64.ofInt x).toBitVec.toNat = (x % 18446744073709551616).toNat := by
  rw [Int64.toBitVec_ofInt, BitVec.toNat_ofInt]; rfl
theorem b_toI64 (a : Int64) (h : a.toBitVec.toNat < 9223372036854775808) : a.toInt = (a.toBitVec.toNat : Int) := by
  show a.toBitVec.toInt = _
  rw [BitVec.toInt_eq_toNat_cond, if_pos (by omega)]
theorem b_un {X j : Nat} (hX : X < 4611686018427387904) (hj : j < 7) : e_un X j = ((e_d X j : Nat) : Int) := by
  have hs : ((Int32.ofInt (k_wr (6 * (j : Int)))).toInt64.toUInt64 &&& Int64.toUInt64 63).toNat % 64 = 6 * j := by
    have : ∀ j : Nat, j < 7 → ((Int32.ofInt (k_wr (6 * (j : Int)))).toInt64.toUInt64 &&& Int64.toUInt64 63).toNat % 64 = 6 * j := by decide +kernel
    exact this j hj
  have hx : (Int64.ofInt (X : Int)).toUInt64.toNat = X := by
    show (Int64.ofInt (X : Int)).toBitVec.toNat = X
    rw [b_of64]; omega
  have h1 : ((Int64.ofInt (X : Int)).toUInt64 >>> ((Int32.ofInt (k_wr (6 * (j : Int)))).toInt64.toUInt64 &&& Int64.toUInt64 63)).toNat = X >>> (6 * j) := by
    rw [UInt64.toNat_shiftRight, hs, hx]
  have h2 : ∀ U : UInt64, (U.toInt64.toInt32 &&& Int32.ofInt 63).toBitVec.toNat = U.toNat % 64 := by
    intro U
    rw [Int32.toBitVec_and, BitVec.toNat_and]
    have e : U.toInt64.toInt32.toBitVec.toNat = U.toNat % 4294967296 := by
      show (U.toBitVec.signExtend 32).toNat = _
      rw [BitVec.signExtend_eq_setWidth_of_le _ (by decide), BitVec.toNat_setWidth]
      rfl
    rw [e]
    refine Eq.trans (Nat.and_two_pow_sub_one_eq_mod _ 6) ?_
    show U.toNat % 4294967296 % 64 = U.toNat % 64
    omega
  unfold e_un k_and k_l2i k_lushr
  rw [Int64.ofInt_toInt, Int32.ofInt_toInt, p_toInt _ (by rw [h2]; omega), h2, h1]
  rfl
theorem b_lor {X Y : Nat} (hX : X < 4611686018427387904) (hY : Y < 4611686018427387904) : k_lorr X Y = ((X ||| Y : Nat) : Int) := by
  have ho : X ||| Y < 2 ^ 62 := Nat.or_lt_two_pow (n := 62) hX hY
  have h : (Int64.ofInt (X : Int) ||| Int64.ofInt (Y : Int)).toBitVec.toNat = X ||| Y := by
    rw [Int64.toBitVec_or, BitVec.toNat_or, b_of64, b_of64]
    have e1 : ((X : Int) % 18446744073709551616).toNat = X := by omega
    have e2 : ((Y : Int) % 18446744073709551616).toNat = Y := by omega
    rw [e1, e2]
  unfold k_lorr
  rw [b_toI64 _ (by rw [h]; omega), h]
theorem b_lorB {X Y : Nat} (hX : X < 4611686018427387904) (hY : Y < 4611686018427387904) : X ||| Y < 4611686018427387904 := Nat.or_lt_two_pow (n := 62) hX hY
theorem b_pk {g r : Nat} (hg : g < 64) (hr : r < 7) : k_lshl g (k_wr (6 * (r : Int))) = ((g * 2 ^ (6 * r) : Nat) : Int) := by
  have : ∀ g : Fin 64, ∀ r : Fin 7, k_lshl (g.val : Int) (k_wr (6 * (r.val : Int))) = ((g.val * 2 ^ (6 * r.val) : Nat) : Int) := by decide +kernel
  exact this ⟨g, hg⟩ ⟨r, hr⟩
theorem b_pkB {g r : Nat} (hg : g < 64) (hr : r < 7) : g * 2 ^ (6 * r) < 4611686018427387904 := by
  have : ∀ g : Fin 64, ∀ r : Fin 7, g.val * 2 ^ (6 * r.val) < 4611686018427387904 := by decide +kernel
  exact this ⟨g, hg⟩ ⟨r, hr⟩
theorem e_d0 (j : Nat) : e_d 0 j = 0 := by unfold e_d; simp
theorem e_dor (X Y j : Nat) : e_d (X ||| Y) j = e_d X j ||| e_d Y j := by
  unfold e_d
  rw [Nat.shiftRight_or_distrib, Nat.or_mod_two_pow]
theorem e_dpk {g r j : Nat} (hg : g < 64) (hr : r < 7) (hj : j < 7) : e_d (g * 2 ^ (6 * r)) j = if j = r then g else 0 := by
  have : ∀ g : Fin 64, ∀ r : Fin 7, ∀ j : Fin 7, e_d (g.val * 2 ^ (6 * r.val)) j.val = if j.val = r.val then g.val else 0 := by decide +kernel
  exact this ⟨g, hg⟩ ⟨r, hr⟩ ⟨j, hj⟩
/-- the digits 1 .. k put together -/
def e_pk (f : Nat → Nat) : Nat → Nat
  | 0 => 0
  | k + 1 => e_pk f k ||| f (k + 1) * 2 ^ (6 * (k + 1))
theorem e_pkD {f : Nat → Nat} (hf : ∀ j, 1 ≤ j → j ≤ 6 → f j < 64) : ∀ k, k ≤ 6 → e_pk f k < 4611686018427387904 ∧ ∀ j, j < 7 → e_d (e_pk f k) j = if 1 ≤ j ∧ j ≤ k then f j else 0 := by
  intro k
  induction k with
  | zero =>
    intro _
    refine ⟨by show 0 < 4611686018427387904; decide, fun j hj => ?_⟩
    rw [if_neg (by omega)]
    show e_d 0 j = 0
    exact e_d0 j
  | succ k ih =>
    intro hk
    have h := ih (by omega)
    have fk := hf (k + 1) (by omega) hk
    rw [e_pk]
    refine ⟨b_lorB h.1 (b_pkB fk (by omega)), fun j hj => ?_⟩
    rw [e_dor, h.2 j hj, e_dpk fk (by omega) hj]
    by_cases z : j = k + 1
    · rw [if_neg (by omega), if_pos z, if_pos (by omega), z, Nat.zero_or]
    · rw [if_neg z, Nat.or_zero]
      by_cases y : 1 ≤ j ∧ j ≤ k
      · rw [if_pos y, if_pos (by omega)]
      · rw [if_neg y, if_neg (by omega)]
