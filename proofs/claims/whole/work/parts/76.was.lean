/-! what was there -/
def e_cd (m : Int) (u : Nat) (la ln ru : Int) : Int := (((m * 64 + u) * 7 + la + 1) * 15 + (if la < 0 then 0 else m - ln)) * 15 + ru
def m_bit (A : k_H) (x : Int) : Bool := b_l (k_rd A 149 (x / 64)) (x % 64).toNat
theorem m_was {A : k_H} {m la ln ru : Int} {u : Nat} (hm : 0 ≤ m ∧ m ≤ 13) (h4 : k_rd A 143 m = u) (h5 : k_rd A 144 m = la) (h6 : k_rd A 145 m = ln) (h7 : k_rd A 146 m = ru) (hu : u < 64) (hla : -1 ≤ la ∧ la ≤ 5) (hln : 0 ≤ la → 0 ≤ ln ∧ ln < m) (hru : 0 ≤ ru ∧ ru ≤ 14) : ∃ A', gX9_wasThere A m = some (if m_bit A (e_cd m u la ln ru) = true then 1 else 0, A') ∧ (∀ a i : Int, a ≠ 149 → k_rd A' a i = k_rd A a i) ∧ ∀ x : Int, 0 ≤ x → x < 1411200 → m_bit A' x = (m_bit A x || decide (x = e_cd m u la ln ru)) := by
  have m15 : 0 ≤ m ∧ m < ((15 : Nat) : Int) := by omega
  have main : ∀ ago : Int, 0 ≤ ago → ago ≤ 14 → ∀ c : Int, c = (((m * 64 + u) * 7 + la + 1) * 15 + ago) * 15 + ru → ∃ A', gX9_wasThere_b21 A m ago = some (if m_bit A c = true then 1 else 0, A') ∧ (∀ a i : Int, a ≠ 149 → k_rd A' a i = k_rd A a i) ∧ ∀ x : Int, 0 ≤ x → x < 1411200 → m_bit A' x = (m_bit A x || decide (x = c)) := by
    intro ago g0 g1 c hc
    have cb : 0 ≤ c ∧ c < 1411200 := by omega
    unfold gX9_wasThere_b21
    rw [if_pos m15, if_pos m15, if_pos m15, h4, h5, h7, k_wr_of (x := m * 64) (by omega) (by omega), k_wr_of (x := m * 64 + u) (by omega) (by omega), k_wr_of (x := (m * 64 + u) * 7) (by omega) (by omega), k_wr_of (x := (m * 64 + u) * 7 + la) (by omega) (by omega), k_wr_of (x := (m * 64 + u) * 7 + la + 1) (by omega) (by omega), k_wr_of (x := ((m * 64 + u) * 7 + la + 1) * 15) (by omega) (by omega), k_wr_of (x := ((m * 64 + u) * 7 + la + 1) * 15 + ago) (by omega) (by omega), k_wr_of (x := (((m * 64 + u) * 7 + la + 1) * 15 + ago) * 15) (by omega) (by omega), k_wr_of (x := (((m * 64 + u) * 7 + la + 1) * 15 + ago) * 15 + ru) (by omega) (by omega), ← hc]
    rw [Int.tdiv_eq_ediv_of_nonneg cb.1, Int.tmod_eq_emod_of_nonneg cb.1, k_wr_of (x := c / 64) (by omega) (by omega), k_wr_of (x := c % 64) (by omega) (by omega)]
    obtain ⟨j, hj⟩ : ∃ j : Nat, c % 64 = j := ⟨(c % 64).toNat, by omega⟩
    have j64 : j < 64 := by omega
    rw [if_pos (by omega : 0 ≤ c / 64 ∧ c / 64 < ((22050 : Nat) : Int)), hj, b_lh j64]
    have eb : m_bit A c = b_l (k_rd A 149 (c / 64)) j := by unfold m_bit; rw [hj, Int.toNat_natCast]
    rw [eb]
    have rest : (∀ a i : Int, a ≠ 149 → k_rd (k_wt A 149 (c / 64) (k_lorr (k_rd A 149 (c / 64)) (k_lshl 1 j))) a i = k_rd A a i) ∧ ∀ x : Int, 0 ≤ x → x < 1411200 → m_bit (k_wt A 149 (c / 64) (k_lorr (k_rd A 149 (c / 64)) (k_lshl 1 j))) x = (m_bit A x || decide (x = c)) := by
      refine ⟨fun a i q => p_rwn (Or.inl q), fun x x0 x1 => ?_⟩
      unfold m_bit
      by_cases y : x / 64 = c / 64
      · rw [y, p_rwe, b_lo j64 (by omega)]
        have : decide ((x % 64).toNat = j) = decide (x = c) := by
          by_cases z : x = c
          · rw [decide_eq_true z, decide_eq_true (by omega)]
          · rw [decide_eq_false z, decide_eq_false (by omega)]
        rw [this]
      · rw [p_rwn (Or.inr y), decide_eq_false (fun z => y (by rw [z])), Bool.or_false]
    have fin : ∀ v : Int, v = 0 ∨ v = 1 → gX9_wasThere_b87 A c v = some (v, k_wt A 149 (c / 64) (k_lorr (k_rd A 149 (c / 64)) (k_lshl 1 j))) := by
      intro v hv
      unfold gX9_wasThere_b87
      rw [Int.tdiv_eq_ediv_of_nonneg cb.1, Int.tmod_eq_emod_of_nonneg cb.1, k_wr_of (x := c / 64) (by omega) (by omega), k_wr_of (x := c % 64) (by omega) (by omega), if_pos (by omega), p_lt, hj, if_pos hv]
    rw [fin 1 (Or.inr rfl), fin 0 (Or.inl rfl)]
    refine ⟨_, ?_, rest⟩
    by_cases z : b_l (k_rd A 149 (c / 64)) j = true
    · rw [if_pos z, if_neg (by omega : ¬ (1 : Int) < 1), if_pos (rfl : (1 : Int) = 1), if_pos (rfl : (0 : Int) = 0)]
    · rw [if_neg z, if_neg (by omega : ¬ (1 : Int) < 0), if_neg (by omega : ¬ (0 : Int) = 1), if_neg (by omega : ¬ (-1 : Int) = 0)]
  unfold gX9_wasThere gX9_wasThere_b0
  rw [if_pos m15, h5]
  by_cases l : la < 0
  · rw [if_pos l]
    exact main 0 (by omega) (by omega) _ (by unfold e_cd; rw [if_pos l])
  · rw [if_neg l, if_pos m15, h6, k_wr_of (by omega) (by omega)]
    exact main (m - ln) (by omega) (by omega) _ (by unfold e_cd; rw [if_neg l])
def e_va (m : Int) (u : Nat) (la ln ru : Int) : Prop := 0 ≤ m ∧ m ≤ 13 ∧ u < 64 ∧ ((la = -1 ∧ ln = 0) ∨ (0 ≤ la ∧ la ≤ 5 ∧ 0 ≤ ln ∧ ln < m)) ∧ 0 ≤ ru ∧ ru ≤ 14
theorem e_cdB {m la ln ru : Int} {u : Nat} (h : e_va m u la ln ru) : 0 ≤ e_cd m u la ln ru ∧ e_cd m u la ln ru < 1411200 := by
  unfold e_va at h
  unfold e_cd
  split <;> omega
theorem e_cdI {m la ln ru m2 la2 ln2 ru2 : Int} {u u2 : Nat} (h : e_va m u la ln ru) (h2 : e_va m2 u2 la2 ln2 ru2) (e : e_cd m u la ln ru = e_cd m2 u2 la2 ln2 ru2) : m = m2 ∧ u = u2 ∧ la = la2 ∧ ln = ln2 ∧ ru = ru2 := by
  unfold e_va at h h2
  unfold e_cd at e
  have g1 : ∃ a, (if la < 0 then 0 else m - ln) = a ∧ 0 ≤ a ∧ a ≤ 14 ∧ (la < 0 → a = 0) ∧ (0 ≤ la → a = m - ln) := by
    refine ⟨_, rfl, ?_⟩
    split <;> omega
  have g2 : ∃ a, (if la2 < 0 then 0 else m2 - ln2) = a ∧ 0 ≤ a ∧ a ≤ 14 ∧ (la2 < 0 → a = 0) ∧ (0 ≤ la2 → a = m2 - ln2) := by
    refine ⟨_, rfl, ?_⟩
    split <;> omega
  obtain ⟨a, ea, a0, a1, a2, a3⟩ := g1
  obtain ⟨b, eb, b0, b1, b2, b3⟩ := g2
  rw [ea, eb] at e
  have r1 : ru = ru2 := by omega
  have r2 : a = b := by omega
  have r3 : la = la2 := by omega
  have r4 : u = u2 := by omega
  have r5 : m = m2 := by omega
  refine ⟨r5, r4, r3, ?_, r1⟩
  by_cases z : la < 0
  · omega
  · have := a3 (by omega)
    have := b3 (by omega)
    omega
def e_wo (E : e_E) (u : Nat) : Int := p_sum (e_ur E 0) (e_mn E) - p_sum (e_ur E u) (e_mn E)
def e_GI (A : k_H) (E : e_E) (to n M : Int) : Prop := ∀ (m : Int) (u : Nat) (la ln ru : Int), n < m → m ≤ to → e_va m u la ln ru → m_bit A (e_cd m u la ln ru) = true → e_wo E u + e_V E (to + 1 - m).toNat m ((u, la, ln, ru) : e_s) ≤ M
def e_fm (n : Int) (A B : k_H) : Prop := (∀ a i : Int, a < 142 ∨ 149 < a → k_rd B a i = k_rd A a i) ∧ (∀ a i : Int, 143 ≤ a → a ≤ 147 → i ≤ n → k_rd B a i = k_rd A a i) ∧ (∀ i : Int, i < n → k_rd B 142 i = k_rd A 142 i) ∧ (∀ (m : Int) (u : Nat) (la ln ru : Int), e_va m u la ln ru → m ≤ n → m_bit B (e_cd m u la ln ru) = m_bit A (e_cd m u la ln ru))
theorem e_fmR {n : Int} {A : k_H} : e_fm n A A := ⟨fun _ _ _ => rfl, fun _ _ _ _ _ => rfl, fun _ _ => rfl, fun _ _ _ _ _ _ _ => rfl⟩
theorem e_fmT {n : Int} {A B C : k_H} (h : e_fm n A B) (k : e_fm n B C) : e_fm n A C := ⟨fun a i q => (k.1 a i q).trans (h.1 a i q), fun a i x y z => (k.2.1 a i x y z).trans (h.2.1 a i x y z), fun i x => (k.2.2.1 i x).trans (h.2.2.1 i x), fun m u la ln ru x y => (k.2.2.2 m u la ln ru x y).trans (h.2.2.2 m u la ln ru x y)⟩
theorem e_mbE {A B : k_H} (h : ∀ i, k_rd B 149 i = k_rd A 149 i) (x : Int) : m_bit B x = m_bit A x := by unfold m_bit; rw [h]
theorem e_GIm {A : k_H} {E : e_E} {to n M M' : Int} (h : e_GI A E to n M) (q : M ≤ M') : e_GI A E to n M' := fun m u la ln ru a b c d => Int.le_trans (h m u la ln ru a b c d) q
def e_al (A : k_H) (E : e_E) (x : Int) : Int := if x < e_mn E then k_rd A 141 x else -1
def e_W : Nat → Nat → Nat
  | 0, _ => 8
  | k + 1, c => 8 + c * e_W k (c - 1) + e_W k c
def e_af (K : k_H → Int → Int → Int → Int → Option (Int × k_H)) (A : k_H) (s mn M n : Int) : Option (Int × k_H) := if 0 ≤ s ∧ s < ((6 : Nat) : Int) then (if (k_rd A 133 s) < k_wr (n + 1) then (if 0 ≤ k_wr (n + 1) ∧ k_wr (n + 1) < ((15 : Nat) : Int) then (if M < (k_rd A 147 (k_wr (n + 1))) then (gX9_book_h259 K k_FU A s mn (k_rd A 147 (k_wr (n + 1))) (k_wr (n + 1)) (k_rd A 132 s)) else (gX9_book_b310 K A s mn M (k_wr (n + 1)))) else none) else (k_bd (gX9_wasThere A (k_wr (n + 1))) fun r15 A16 => if r15 = 0 then (if 0 ≤ k_wr (n + 1) ∧ k_wr (n + 1) < ((15 : Nat) : Int) then (k_bd (gX9_rest A16 s (k_wr (n + 1)) mn) fun r21 A22 => if k_wr ((k_rd A16 147 (k_wr (n + 1))) + r21) ≤ M then (gX9_book_b345 K A22 s mn M (k_wr (n + 1))) else (if 0 ≤ k_wr (n + 1) ∧ k_wr (n + 1) < ((15 : Nat) : Int) then (k_lt (k_wt A22 142 (k_wr (n + 1)) (-1)) fun A27 => K A27 s mn M (k_wr (n + 1))) else none)) else none) else (gX9_book_b345 K A16 s mn M (k_wr (n + 1))))) else none
theorem m_head (N : Nat) (A : k_H) (s mn M n : Int) (hs : 0 ≤ s ∧ s < 6) (hn : k_rd A 132 s ≤ n) (hn2 : 0 ≤ n ∧ n ≤ 13) {o : Int} (ho : k_rd A 142 n = o - 1) (ob : 0 ≤ o ∧ o ≤ 100) : gX9_book_h165 (N + 1) A s mn M n = if mn < o then gX9_book_h165 N (k_wt A 142 n o) s mn M (n - 1) else k_bd (gX9_go (k_wt A 142 n o) s n mn) fun r8 A9 => if r8 = 0 then gX9_book_h165 N A9 s mn M n else e_af (gX9_book_h165 N) A9 s mn M n := by
  rw [gX9_book_h165, if_pos (by omega), if_pos hn, if_pos (by omega), p_lt, ho, show o - 1 + 1 = o by omega, k_wr_of (x := o) (by omega) (by omega), p_rwe, k_wr_of (x := n + -1) (by omega) (by omega)]
  rfl
