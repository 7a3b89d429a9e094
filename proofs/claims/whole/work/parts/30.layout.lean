/-! the heap as the constructors lay it -/
def k_tbl : List (Nat × Nat) := [(8, 8), (5, 2), (21, 200), (23, 12), (24, 6), (3, 9), (21, 4), (21, 8), (21, 9), (21, 9), (21, 8), (21, 8), (2, 10), (21, 6), (21, 6), (21, 36), (21, 6), (22, 5376), (7, 12), (6, 7), (21, 3), (21, 3), (5, 2), (21, 200), (1, 6), (0, 2), (21, 4), (21, 6), (1, 6), (0, 2), (21, 4), (21, 6), (1, 6), (0, 2), (21, 4), (21, 6), (1, 6), (0, 2), (21, 4), (21, 6), (1, 6), (0, 2), (21, 4), (21, 6), (1, 6), (0, 2), (21, 4), (21, 6), (1, 6), (0, 2), (21, 4), (21, 6), (1, 6), (0, 2), (21, 4), (21, 6), (1, 6), (0, 2), (21, 4), (21, 6), (1, 6), (0, 2), (21, 4), (21, 6), (1, 6), (0, 2), (21, 4), (21, 6), (1, 6), (0, 2), (21, 4), (21, 6), (4, 10), (0, 2), (21, 8), (21, 14), (21, 14), (6, 7), (21, 3), (21, 3), (4, 10), (0, 2), (21, 8), (21, 14), (21, 14), (6, 7), (21, 3), (21, 3), (4, 10), (0, 2), (21, 8), (21, 14), (21, 14), (6, 7), (21, 3), (21, 3), (4, 10), (0, 2), (21, 8), (21, 14), (21, 14), (6, 7), (21, 3), (21, 3), (4, 10), (0, 2), (21, 8), (21, 14), (21, 14), (6, 7), (21, 3), (21, 3), (4, 10), (0, 2), (21, 8), (21, 14), (21, 14), (6, 7), (21, 3), (21, 3), (9, 43), (20, 200), (21, 12), (21, 12), (21, 12), (21, 12), (21, 12), (21, 48), (21, 6), (21, 6), (21, 6), (21, 48), (21, 6), (21, 6), (21, 6), (21, 6), (21, 72), (21, 8), (21, 4), (21, 84), (21, 84), (21, 6), (21, 15), (21, 15), (21, 15), (21, 15), (21, 15), (21, 15), (21, 14), (22, 22050), (21, 84), (22, 1)]
def k_shp (a : Int) : Nat × Nat := k_tbl.getD a.toNat (99, 0)
def k_offs : List (List Nat) := [[1, 0], [1, 3, 0, 0, 0, 0], [1, 2, 3, 4, 5, 0, 0, 0, 0, 0], [1, 2, 3, 4, 5, 6, 0, 0, 0], [1, 3, 4, 5, 0, 0, 0, 0, 0, 0], [1, 0], [1, 2, 0, 0, 0, 0, 0], [1, 0, 0, 0, 4, 0, 0, 0, 0, 0, 0, 0], [1, 3, 4, 5, 12, 18, 0, 0], [0, 1, 0, 0, 0, 2, 3, 4, 5, 6, 7, 8, 9, 10, 11, 12, 13, 14, 15, 16, 0, 0, 17, 18, 19, 20, 21, 22, 23, 24, 25, 26, 27, 28, 29, 30, 0, 0, 0, 0, 0, 0, 0]]
def k_pv (a i : Int) : Int := if (k_shp a).1 = 23 then 24 + 4 * i else if (k_shp a).1 = 24 then 72 + 8 * i else a + (((k_offs.getD (k_shp a).1 []).getD i.toNat 0 : Nat) : Int)
abbrev k_SC : Type := (Nat × (Nat → Int32)) × Nat × Nat
def k_isK (a : Int) (k : Nat) : Prop := 0 ≤ a ∧ a < 152 ∧ (k_shp a).1 = k
def k_rw (a : Int) (K L : Nat) : Prop := 0 ≤ a ∧ a < 152 ∧ k_shp a = (K, L)
def k_isI (a : Int) : Prop := 0 ≤ a ∧ a < 152 ∧ (k_shp a).1 = 21
def k_Wf (sc : k_SC) (A : k_H) : Prop := A.1 = (152, sc.2.1, sc.2.2) ∧ (∀ a : Int, 0 ≤ a → a < 152 → k_kd A a = k_shp a) ∧ (∀ a i : Int, 0 ≤ a → a < 152 → 0 ≤ i → i < (k_shp a).2 → k_etag (k_shp a).1 i = 1 → k_rd A a i = k_pv a i) ∧ k_sc A sc.1
theorem k_iR {a : Int} (h : k_isI a) : k_rw a 21 (k_shp a).2 := ⟨h.1, h.2.1, Prod.ext h.2.2 rfl⟩
theorem k_Ri {a : Int} {L : Nat} (h : k_rw a 21 L) : k_isI a := ⟨h.1, h.2.1, by rw [h.2.2]⟩
section
variable {sc : k_SC} {A B X : k_H}
theorem k_wN (hw : k_Wf sc A) : k_N A = 152 := by unfold k_N; rw [hw.1]
theorem k_wO (hw : k_Wf sc A) {a : Int} {ci : Nat} (h : k_isK a ci) : k_isO A a ci := ⟨h.1, by rw [k_wN hw]; exact h.2.1, by rw [hw.2.1 a h.1 h.2.1]; exact h.2.2⟩
theorem k_wA (hw : k_Wf sc A) {a i : Int} {K L : Nat} (h : k_rw a K L) (hc : 0 ≤ i ∧ i < ((L : Nat) : Int)) : k_isA A a K i := ⟨h.1, by rw [k_wN hw]; exact h.2.1, by rw [hw.2.1 a h.1 h.2.1, h.2.2], hc.1, by rw [hw.2.1 a h.1 h.2.1, h.2.2]; exact hc.2⟩
theorem k_wR (hw : k_Wf sc A) {a : Int} {K L : Nat} (h : k_rw a K L) : k_isR A a K := ⟨h.1, by rw [k_wN hw]; exact h.2.1, by rw [hw.2.1 a h.1 h.2.1, h.2.2]⟩
theorem k_wD (hw : k_Wf sc A) {a : Int} {K L : Nat} (h : k_rw a K L) : (k_kd A a).2 = L := by rw [hw.2.1 a h.1 h.2.1, h.2.2]
theorem k_shp_nat {a : Int} (h0 : 0 ≤ a) (h1 : a < 152) {P : Nat → Nat × Nat → Prop} (h : ∀ n : Nat, n < 152 → P n (k_tbl.getD n (99, 0))) : P a.toNat (k_shp a) := h a.toNat (by omega)
theorem k_shp_small : ∀ n : Nat, n < 152 → (k_tbl.getD n (99, 0)).2 < 2147483648 := by decide +kernel
theorem k_wL (hw : k_Wf sc A) {a : Int} {K L : Nat} (h : k_rw a K L) : (k_kd A a).2 < 2147483648 := by
  rw [hw.2.1 a h.1 h.2.1]
  exact k_shp_nat (P := fun _ s => s.2 < 2147483648) h.1 h.2.1 k_shp_small
theorem k_wE (e : B = X) (h : k_Wf sc X) : k_Wf sc B := e ▸ h
theorem k_ltg {g : k_H → Option (Int × k_H)} {y : Option (Int × k_H)} {Q : Prop} (e : B = X) (h : g B = y ∧ Q) : k_lt X g = y ∧ Q := by subst e; exact h
theorem k_bds {r : Int} {g : Int → k_H → Option (Int × k_H)} : k_bd (some (r, A)) g = g r A := rfl
theorem k_w_wt (hw : k_Wf sc A) {a i v : Int} (h0 : 0 ≤ a) (hn : 0 ≤ i → k_etag (k_shp a).1 i ≠ 1) : k_Wf sc (k_wt A a i v) := by
  obtain ⟨h1, h2, h3, h4, h5⟩ := hw
  refine ⟨h1, h2, fun b j b0 b1 j0 j1 ht => ?_, h4, fun j hj => ?_⟩
  · show (if b = a ∧ j = i then v else k_rd A b j) = _
    rw [if_neg]
    · exact h3 b j b0 b1 j0 j1 ht
    · rintro ⟨rfl, rfl⟩
      exact hn j0 ht
  · show (if (-2 : Int) = a ∧ (j : Int) = i then v else k_rd A (-2) j) = _
    rw [if_neg (by omega)]
    exact h5 j hj
theorem k_wo (hw : k_Wf sc A) {a v : Int} {ci : Nat} (h : k_isK a ci) (f : Int) (hf : k_etag ci f ≠ 1) : k_Wf sc (k_wt A a f v) := k_w_wt hw h.1 (fun _ => by rw [h.2.2]; exact hf)
theorem k_wa (hw : k_Wf sc A) {a i v : Int} {K L : Nat} (h : k_rw a K L) (hK : 20 ≤ K ∧ K < 23) : k_Wf sc (k_wt A a i v) := k_w_wt hw h.1 (fun _ => by
  rw [h.2.2]
  unfold k_etag
  rw [if_neg (by show ¬ K < 20; omega)]
  split
  · decide
  · rw [if_pos (by show K < 23; omega)]; decide)
theorem k_wi (hw : k_Wf sc A) {a i v : Int} (h : k_isI a) : k_Wf sc (k_wt A a i v) := k_wa hw (k_iR h) (by decide)
theorem k_wc (hw : k_Wf sc A) {a0 sp a dp n : Int} {L : Nat} (h : k_rw a 21 L) : k_Wf sc (k_cp A a0 sp a dp n) := by
  obtain ⟨h1, h2, h3, h4, h5⟩ := hw
  refine ⟨h1, h2, fun b j b0 b1 j0 j1 ht => ?_, h4, fun j hj => ?_⟩
  · show (if b = a ∧ dp ≤ j ∧ j < dp + n then _ else k_rd A b j) = _
    rw [if_neg]
    · exact h3 b j b0 b1 j0 j1 ht
    · rintro ⟨rfl, -⟩
      rw [h.2.2] at ht
      exact absurd ht (by show ¬ (0 = 1); decide)
  · show (if (-2 : Int) = a ∧ _ then _ else k_rd A (-2) j) = _
    rw [if_neg (by have := h.1; omega)]
    exact h5 j hj
theorem k_a23 (hw : k_Wf sc A) {i : Int} (h : 0 ≤ i ∧ i < ((12 : Nat) : Int)) : k_rd A 3 i = 24 + 4 * i := hw.2.2.1 3 i (by decide) (by decide) h.1 h.2 rfl
theorem k_a24 (hw : k_Wf sc A) {i : Int} (h : 0 ≤ i ∧ i < ((6 : Nat) : Int)) : k_rd A 4 i = 72 + 8 * i := hw.2.2.1 4 i (by decide) (by decide) h.1 h.2 rfl
theorem k_b23n : ∀ n : Nat, n < 12 → (k_tbl.getD (24 + 4 * n) (99, 0)).1 = 1 := by decide +kernel
theorem k_b24n : ∀ n : Nat, n < 6 → (k_tbl.getD (72 + 8 * n) (99, 0)).1 = 4 := by decide +kernel
theorem k_b23 {i : Int} (h : 0 ≤ i ∧ i < ((12 : Nat) : Int)) : k_isK (24 + 4 * i) 1 := by
  refine ⟨by omega, by omega, ?_⟩
  unfold k_shp
  rw [show (24 + 4 * i).toNat = 24 + 4 * i.toNat by omega]
  exact k_b23n _ (by omega)
theorem k_b24 {i : Int} (h : 0 ≤ i ∧ i < ((6 : Nat) : Int)) : k_isK (72 + 8 * i) 4 := by
  refine ⟨by omega, by omega, ?_⟩
  unfold k_shp
  rw [show (72 + 8 * i).toNat = 72 + 8 * i.toNat by omega]
  exact k_b24n _ (by omega)
theorem k_K0 : k_isK 0 8 := ⟨by decide, by decide, by decide +kernel⟩
theorem k_K1 : k_isK 1 5 := ⟨by decide, by decide, by decide +kernel⟩
theorem k_K5 : k_isK 5 3 := ⟨by decide, by decide, by decide +kernel⟩
theorem k_K12 : k_isK 12 2 := ⟨by decide, by decide, by decide +kernel⟩
theorem k_K18 : k_isK 18 7 := ⟨by decide, by decide, by decide +kernel⟩
theorem k_K19 : k_isK 19 6 := ⟨by decide, by decide, by decide +kernel⟩
theorem k_K22 : k_isK 22 5 := ⟨by decide, by decide, by decide +kernel⟩
theorem k_K120 : k_isK 120 9 := ⟨by decide, by decide, by decide +kernel⟩
theorem k_R2 : k_rw 2 21 200 := ⟨by decide, by decide, by decide +kernel⟩
theorem k_R3 : k_rw 3 23 12 := ⟨by decide, by decide, by decide +kernel⟩
theorem k_R4 : k_rw 4 24 6 := ⟨by decide, by decide, by decide +kernel⟩
theorem k_R6 : k_rw 6 21 4 := ⟨by decide, by decide, by decide +kernel⟩
theorem k_R7 : k_rw 7 21 8 := ⟨by decide, by decide, by decide +kernel⟩
theorem k_R8 : k_rw 8 21 9 := ⟨by decide, by decide, by decide +kernel⟩
theorem k_R9 : k_rw 9 21 9 := ⟨by decide, by decide, by decide +kernel⟩
theorem k_R10 : k_rw 10 21 8 := ⟨by decide, by decide, by decide +kernel⟩
theorem k_R11 : k_rw 11 21 8 := ⟨by decide, by decide, by decide +kernel⟩
theorem k_R13 : k_rw 13 21 6 := ⟨by decide, by decide, by decide +kernel⟩
theorem k_R14 : k_rw 14 21 6 := ⟨by decide, by decide, by decide +kernel⟩
theorem k_R15 : k_rw 15 21 36 := ⟨by decide, by decide, by decide +kernel⟩
theorem k_R16 : k_rw 16 21 6 := ⟨by decide, by decide, by decide +kernel⟩
theorem k_R17 : k_rw 17 22 5376 := ⟨by decide, by decide, by decide +kernel⟩
theorem k_R20 : k_rw 20 21 3 := ⟨by decide, by decide, by decide +kernel⟩
theorem k_R21 : k_rw 21 21 3 := ⟨by decide, by decide, by decide +kernel⟩
theorem k_R23 : k_rw 23 21 200 := ⟨by decide, by decide, by decide +kernel⟩
theorem k_R121 : k_rw 121 20 200 := ⟨by decide, by decide, by decide +kernel⟩
theorem k_R122 : k_rw 122 21 12 := ⟨by decide, by decide, by decide +kernel⟩
theorem k_R123 : k_rw 123 21 12 := ⟨by decide, by decide, by decide +kernel⟩
theorem k_R124 : k_rw 124 21 12 := ⟨by decide, by decide, by decide +kernel⟩
theorem k_R125 : k_rw 125 21 12 := ⟨by decide, by decide, by decide +kernel⟩
theorem k_R126 : k_rw 126 21 12 := ⟨by decide, by decide, by decide +kernel⟩
theorem k_R127 : k_rw 127 21 48 := ⟨by decide, by decide, by decide +kernel⟩
theorem k_R128 : k_rw 128 21 6 := ⟨by decide, by decide, by decide +kernel⟩
theorem k_R129 : k_rw 129 21 6 := ⟨by decide, by decide, by decide +kernel⟩
theorem k_R130 : k_rw 130 21 6 := ⟨by decide, by decide, by decide +kernel⟩
theorem k_R131 : k_rw 131 21 48 := ⟨by decide, by decide, by decide +kernel⟩
theorem k_R132 : k_rw 132 21 6 := ⟨by decide, by decide, by decide +kernel⟩
theorem k_R133 : k_rw 133 21 6 := ⟨by decide, by decide, by decide +kernel⟩
theorem k_R134 : k_rw 134 21 6 := ⟨by decide, by decide, by decide +kernel⟩
theorem k_R135 : k_rw 135 21 6 := ⟨by decide, by decide, by decide +kernel⟩
theorem k_R136 : k_rw 136 21 72 := ⟨by decide, by decide, by decide +kernel⟩
theorem k_R137 : k_rw 137 21 8 := ⟨by decide, by decide, by decide +kernel⟩
theorem k_R138 : k_rw 138 21 4 := ⟨by decide, by decide, by decide +kernel⟩
theorem k_R139 : k_rw 139 21 84 := ⟨by decide, by decide, by decide +kernel⟩
theorem k_R140 : k_rw 140 21 84 := ⟨by decide, by decide, by decide +kernel⟩
theorem k_R141 : k_rw 141 21 6 := ⟨by decide, by decide, by decide +kernel⟩
theorem k_R142 : k_rw 142 21 15 := ⟨by decide, by decide, by decide +kernel⟩
theorem k_R143 : k_rw 143 21 15 := ⟨by decide, by decide, by decide +kernel⟩
theorem k_R144 : k_rw 144 21 15 := ⟨by decide, by decide, by decide +kernel⟩
theorem k_R145 : k_rw 145 21 15 := ⟨by decide, by decide, by decide +kernel⟩
theorem k_R146 : k_rw 146 21 15 := ⟨by decide, by decide, by decide +kernel⟩
theorem k_R147 : k_rw 147 21 15 := ⟨by decide, by decide, by decide +kernel⟩
theorem k_R148 : k_rw 148 21 14 := ⟨by decide, by decide, by decide +kernel⟩
theorem k_R149 : k_rw 149 22 22050 := ⟨by decide, by decide, by decide +kernel⟩
theorem k_R150 : k_rw 150 21 84 := ⟨by decide, by decide, by decide +kernel⟩
theorem k_R151 : k_rw 151 22 1 := ⟨by decide, by decide, by decide +kernel⟩
theorem k_n0_0 : ∀ n : Nat, n < 152 → (k_tbl.getD n (99, 0)).1 = 0 → (k_tbl.getD n (99, 0)).2 = 2 ∧ n + 1 < 152 ∧ (k_tbl.getD (n + 1) (99, 0)).1 = 21 := by decide +kernel
theorem k_p0_0 (hw : k_Wf sc A) {a : Int} (h : k_isK a 0) : k_rd A a 0 = a + 1 := by
  have h9 := k_n0_0 a.toNat (by have := h.1; have := h.2.1; omega) h.2.2
  have h8 : (k_shp a).2 = 2 := h9.1
  rw [hw.2.2.1 a 0 h.1 h.2.1 (by decide) (by rw [h8]; decide) (by rw [h.2.2]; decide +kernel)]
  unfold k_pv
  rw [h.2.2]
  rfl
theorem k_q0_0 {a : Int} (h : k_isK a 0) : k_rw (a + 1) 21 (k_shp (a + 1)).2 := by
  have h9 := k_n0_0 a.toNat (by have := h.1; have := h.2.1; omega) h.2.2
  have e : (a + 1).toNat = a.toNat + 1 := by have := h.1; omega
  refine ⟨by have := h.1; omega, by have := h.1; have := h9.2.1; omega, ?_⟩
  show k_tbl.getD (a + 1).toNat (99, 0) = _
  rw [e]
  exact Prod.ext h9.2.2 (by show _ = (k_tbl.getD (a + 1).toNat (99, 0)).2; rw [e])
theorem k_n1_0 : ∀ n : Nat, n < 152 → (k_tbl.getD n (99, 0)).1 = 1 → (k_tbl.getD n (99, 0)).2 = 6 ∧ n + 1 < 152 ∧ (k_tbl.getD (n + 1) (99, 0)).1 = 0 := by decide +kernel
theorem k_p1_0 (hw : k_Wf sc A) {a : Int} (h : k_isK a 1) : k_rd A a 0 = a + 1 := by
  have h9 := k_n1_0 a.toNat (by have := h.1; have := h.2.1; omega) h.2.2
  have h8 : (k_shp a).2 = 6 := h9.1
  rw [hw.2.2.1 a 0 h.1 h.2.1 (by decide) (by rw [h8]; decide) (by rw [h.2.2]; decide +kernel)]
  unfold k_pv
  rw [h.2.2]
  rfl
theorem k_q1_0 {a : Int} (h : k_isK a 1) : k_isK (a + 1) 0 := by
  have h9 := k_n1_0 a.toNat (by have := h.1; have := h.2.1; omega) h.2.2
  have e : (a + 1).toNat = a.toNat + 1 := by have := h.1; omega
  refine ⟨by have := h.1; omega, by have := h.1; have := h9.2.1; omega, ?_⟩
  show (k_tbl.getD (a + 1).toNat (99, 0)).1 = _
  rw [e]
  exact h9.2.2
theorem k_n1_1 : ∀ n : Nat, n < 152 → (k_tbl.getD n (99, 0)).1 = 1 → (k_tbl.getD n (99, 0)).2 = 6 ∧ n + 3 < 152 ∧ k_tbl.getD (n + 3) (99, 0) = (21, 6) := by decide +kernel
theorem k_p1_1 (hw : k_Wf sc A) {a : Int} (h : k_isK a 1) : k_rd A a 1 = a + 3 := by
  have h9 := k_n1_1 a.toNat (by have := h.1; have := h.2.1; omega) h.2.2
  have h8 : (k_shp a).2 = 6 := h9.1
  rw [hw.2.2.1 a 1 h.1 h.2.1 (by decide) (by rw [h8]; decide) (by rw [h.2.2]; decide +kernel)]
  unfold k_pv
  rw [h.2.2]
  rfl
theorem k_q1_1 {a : Int} (h : k_isK a 1) : k_rw (a + 3) 21 6 := by
  have h9 := k_n1_1 a.toNat (by have := h.1; have := h.2.1; omega) h.2.2
  have e : (a + 3).toNat = a.toNat + 3 := by have := h.1; omega
  refine ⟨by have := h.1; omega, by have := h.1; have := h9.2.1; omega, ?_⟩
  show k_tbl.getD (a + 3).toNat (99, 0) = _
  rw [e]
  exact h9.2.2
theorem k_p2_0 (hw : k_Wf sc A) : k_rd A 12 0 = 13 := hw.2.2.1 12 0 (by decide) (by decide) (by decide) (by decide +kernel) (by decide +kernel)
theorem k_p2_1 (hw : k_Wf sc A) : k_rd A 12 1 = 14 := hw.2.2.1 12 1 (by decide) (by decide) (by decide) (by decide +kernel) (by decide +kernel)
theorem k_p2_2 (hw : k_Wf sc A) : k_rd A 12 2 = 15 := hw.2.2.1 12 2 (by decide) (by decide) (by decide) (by decide +kernel) (by decide +kernel)
theorem k_p2_3 (hw : k_Wf sc A) : k_rd A 12 3 = 16 := hw.2.2.1 12 3 (by decide) (by decide) (by decide) (by decide +kernel) (by decide +kernel)
theorem k_p2_4 (hw : k_Wf sc A) : k_rd A 12 4 = 17 := hw.2.2.1 12 4 (by decide) (by decide) (by decide) (by decide +kernel) (by decide +kernel)
theorem k_p3_0 (hw : k_Wf sc A) : k_rd A 5 0 = 6 := hw.2.2.1 5 0 (by decide) (by decide) (by decide) (by decide +kernel) (by decide +kernel)
theorem k_p3_1 (hw : k_Wf sc A) : k_rd A 5 1 = 7 := hw.2.2.1 5 1 (by decide) (by decide) (by decide) (by decide +kernel) (by decide +kernel)
theorem k_p3_2 (hw : k_Wf sc A) : k_rd A 5 2 = 8 := hw.2.2.1 5 2 (by decide) (by decide) (by decide) (by decide +kernel) (by decide +kernel)
theorem k_p3_3 (hw : k_Wf sc A) : k_rd A 5 3 = 9 := hw.2.2.1 5 3 (by decide) (by decide) (by decide) (by decide +kernel) (by decide +kernel)
theorem k_p3_4 (hw : k_Wf sc A) : k_rd A 5 4 = 10 := hw.2.2.1 5 4 (by decide) (by decide) (by decide) (by decide +kernel) (by decide +kernel)
theorem k_p3_5 (hw : k_Wf sc A) : k_rd A 5 5 = 11 := hw.2.2.1 5 5 (by decide) (by decide) (by decide) (by decide +kernel) (by decide +kernel)
theorem k_n4_0 : ∀ n : Nat, n < 152 → (k_tbl.getD n (99, 0)).1 = 4 → (k_tbl.getD n (99, 0)).2 = 10 ∧ n + 1 < 152 ∧ (k_tbl.getD (n + 1) (99, 0)).1 = 0 := by decide +kernel
theorem k_p4_0 (hw : k_Wf sc A) {a : Int} (h : k_isK a 4) : k_rd A a 0 = a + 1 := by
  have h9 := k_n4_0 a.toNat (by have := h.1; have := h.2.1; omega) h.2.2
  have h8 : (k_shp a).2 = 10 := h9.1
  rw [hw.2.2.1 a 0 h.1 h.2.1 (by decide) (by rw [h8]; decide) (by rw [h.2.2]; decide +kernel)]
  unfold k_pv
  rw [h.2.2]
  rfl
theorem k_q4_0 {a : Int} (h : k_isK a 4) : k_isK (a + 1) 0 := by
  have h9 := k_n4_0 a.toNat (by have := h.1; have := h.2.1; omega) h.2.2
  have e : (a + 1).toNat = a.toNat + 1 := by have := h.1; omega
  refine ⟨by have := h.1; omega, by have := h.1; have := h9.2.1; omega, ?_⟩
  show (k_tbl.getD (a + 1).toNat (99, 0)).1 = _
  rw [e]
  exact h9.2.2
theorem k_n4_1 : ∀ n : Nat, n < 152 → (k_tbl.getD n (99, 0)).1 = 4 → (k_tbl.getD n (99, 0)).2 = 10 ∧ n + 3 < 152 ∧ k_tbl.getD (n + 3) (99, 0) = (21, 14) := by decide +kernel
theorem k_p4_1 (hw : k_Wf sc A) {a : Int} (h : k_isK a 4) : k_rd A a 1 = a + 3 := by
  have h9 := k_n4_1 a.toNat (by have := h.1; have := h.2.1; omega) h.2.2
  have h8 : (k_shp a).2 = 10 := h9.1
  rw [hw.2.2.1 a 1 h.1 h.2.1 (by decide) (by rw [h8]; decide) (by rw [h.2.2]; decide +kernel)]
  unfold k_pv
  rw [h.2.2]
  rfl
theorem k_q4_1 {a : Int} (h : k_isK a 4) : k_rw (a + 3) 21 14 := by
  have h9 := k_n4_1 a.toNat (by have := h.1; have := h.2.1; omega) h.2.2
  have e : (a + 3).toNat = a.toNat + 3 := by have := h.1; omega
  refine ⟨by have := h.1; omega, by have := h.1; have := h9.2.1; omega, ?_⟩
  show k_tbl.getD (a + 3).toNat (99, 0) = _
  rw [e]
  exact h9.2.2
theorem k_n4_2 : ∀ n : Nat, n < 152 → (k_tbl.getD n (99, 0)).1 = 4 → (k_tbl.getD n (99, 0)).2 = 10 ∧ n + 4 < 152 ∧ k_tbl.getD (n + 4) (99, 0) = (21, 14) := by decide +kernel
theorem k_p4_2 (hw : k_Wf sc A) {a : Int} (h : k_isK a 4) : k_rd A a 2 = a + 4 := by
  have h9 := k_n4_2 a.toNat (by have := h.1; have := h.2.1; omega) h.2.2
  have h8 : (k_shp a).2 = 10 := h9.1
  rw [hw.2.2.1 a 2 h.1 h.2.1 (by decide) (by rw [h8]; decide) (by rw [h.2.2]; decide +kernel)]
  unfold k_pv
  rw [h.2.2]
  rfl
theorem k_q4_2 {a : Int} (h : k_isK a 4) : k_rw (a + 4) 21 14 := by
  have h9 := k_n4_2 a.toNat (by have := h.1; have := h.2.1; omega) h.2.2
  have e : (a + 4).toNat = a.toNat + 4 := by have := h.1; omega
  refine ⟨by have := h.1; omega, by have := h.1; have := h9.2.1; omega, ?_⟩
  show k_tbl.getD (a + 4).toNat (99, 0) = _
  rw [e]
  exact h9.2.2
theorem k_n4_3 : ∀ n : Nat, n < 152 → (k_tbl.getD n (99, 0)).1 = 4 → (k_tbl.getD n (99, 0)).2 = 10 ∧ n + 5 < 152 ∧ (k_tbl.getD (n + 5) (99, 0)).1 = 6 := by decide +kernel
theorem k_p4_3 (hw : k_Wf sc A) {a : Int} (h : k_isK a 4) : k_rd A a 3 = a + 5 := by
  have h9 := k_n4_3 a.toNat (by have := h.1; have := h.2.1; omega) h.2.2
  have h8 : (k_shp a).2 = 10 := h9.1
  rw [hw.2.2.1 a 3 h.1 h.2.1 (by decide) (by rw [h8]; decide) (by rw [h.2.2]; decide +kernel)]
  unfold k_pv
  rw [h.2.2]
  rfl
theorem k_q4_3 {a : Int} (h : k_isK a 4) : k_isK (a + 5) 6 := by
  have h9 := k_n4_3 a.toNat (by have := h.1; have := h.2.1; omega) h.2.2
  have e : (a + 5).toNat = a.toNat + 5 := by have := h.1; omega
  refine ⟨by have := h.1; omega, by have := h.1; have := h9.2.1; omega, ?_⟩
  show (k_tbl.getD (a + 5).toNat (99, 0)).1 = _
  rw [e]
  exact h9.2.2
theorem k_n5_0 : ∀ n : Nat, n < 152 → (k_tbl.getD n (99, 0)).1 = 5 → (k_tbl.getD n (99, 0)).2 = 2 ∧ n + 1 < 152 ∧ k_tbl.getD (n + 1) (99, 0) = (21, 200) := by decide +kernel
theorem k_p5_0 (hw : k_Wf sc A) {a : Int} (h : k_isK a 5) : k_rd A a 0 = a + 1 := by
  have h9 := k_n5_0 a.toNat (by have := h.1; have := h.2.1; omega) h.2.2
  have h8 : (k_shp a).2 = 2 := h9.1
  rw [hw.2.2.1 a 0 h.1 h.2.1 (by decide) (by rw [h8]; decide) (by rw [h.2.2]; decide +kernel)]
  unfold k_pv
  rw [h.2.2]
  rfl
theorem k_q5_0 {a : Int} (h : k_isK a 5) : k_rw (a + 1) 21 200 := by
  have h9 := k_n5_0 a.toNat (by have := h.1; have := h.2.1; omega) h.2.2
  have e : (a + 1).toNat = a.toNat + 1 := by have := h.1; omega
  refine ⟨by have := h.1; omega, by have := h.1; have := h9.2.1; omega, ?_⟩
  show k_tbl.getD (a + 1).toNat (99, 0) = _
  rw [e]
  exact h9.2.2
theorem k_n6_0 : ∀ n : Nat, n < 152 → (k_tbl.getD n (99, 0)).1 = 6 → (k_tbl.getD n (99, 0)).2 = 7 ∧ n + 1 < 152 ∧ k_tbl.getD (n + 1) (99, 0) = (21, 3) := by decide +kernel
theorem k_p6_0 (hw : k_Wf sc A) {a : Int} (h : k_isK a 6) : k_rd A a 0 = a + 1 := by
  have h9 := k_n6_0 a.toNat (by have := h.1; have := h.2.1; omega) h.2.2
  have h8 : (k_shp a).2 = 7 := h9.1
  rw [hw.2.2.1 a 0 h.1 h.2.1 (by decide) (by rw [h8]; decide) (by rw [h.2.2]; decide +kernel)]
  unfold k_pv
  rw [h.2.2]
  rfl
theorem k_q6_0 {a : Int} (h : k_isK a 6) : k_rw (a + 1) 21 3 := by
  have h9 := k_n6_0 a.toNat (by have := h.1; have := h.2.1; omega) h.2.2
  have e : (a + 1).toNat = a.toNat + 1 := by have := h.1; omega
  refine ⟨by have := h.1; omega, by have := h.1; have := h9.2.1; omega, ?_⟩
  show k_tbl.getD (a + 1).toNat (99, 0) = _
  rw [e]
  exact h9.2.2
theorem k_n6_1 : ∀ n : Nat, n < 152 → (k_tbl.getD n (99, 0)).1 = 6 → (k_tbl.getD n (99, 0)).2 = 7 ∧ n + 2 < 152 ∧ k_tbl.getD (n + 2) (99, 0) = (21, 3) := by decide +kernel
theorem k_p6_1 (hw : k_Wf sc A) {a : Int} (h : k_isK a 6) : k_rd A a 1 = a + 2 := by
  have h9 := k_n6_1 a.toNat (by have := h.1; have := h.2.1; omega) h.2.2
  have h8 : (k_shp a).2 = 7 := h9.1
  rw [hw.2.2.1 a 1 h.1 h.2.1 (by decide) (by rw [h8]; decide) (by rw [h.2.2]; decide +kernel)]
  unfold k_pv
  rw [h.2.2]
  rfl
theorem k_q6_1 {a : Int} (h : k_isK a 6) : k_rw (a + 2) 21 3 := by
  have h9 := k_n6_1 a.toNat (by have := h.1; have := h.2.1; omega) h.2.2
  have e : (a + 2).toNat = a.toNat + 2 := by have := h.1; omega
  refine ⟨by have := h.1; omega, by have := h.1; have := h9.2.1; omega, ?_⟩
  show k_tbl.getD (a + 2).toNat (99, 0) = _
  rw [e]
  exact h9.2.2
theorem k_p7_0 (hw : k_Wf sc A) : k_rd A 18 0 = 19 := hw.2.2.1 18 0 (by decide) (by decide) (by decide) (by decide +kernel) (by decide +kernel)
theorem k_p7_4 (hw : k_Wf sc A) : k_rd A 18 4 = 22 := hw.2.2.1 18 4 (by decide) (by decide) (by decide) (by decide +kernel) (by decide +kernel)
theorem k_p8_0 (hw : k_Wf sc A) : k_rd A 0 0 = 1 := hw.2.2.1 0 0 (by decide) (by decide) (by decide) (by decide +kernel) (by decide +kernel)
theorem k_p8_1 (hw : k_Wf sc A) : k_rd A 0 1 = 3 := hw.2.2.1 0 1 (by decide) (by decide) (by decide) (by decide +kernel) (by decide +kernel)
theorem k_p8_2 (hw : k_Wf sc A) : k_rd A 0 2 = 4 := hw.2.2.1 0 2 (by decide) (by decide) (by decide) (by decide +kernel) (by decide +kernel)
theorem k_p8_3 (hw : k_Wf sc A) : k_rd A 0 3 = 5 := hw.2.2.1 0 3 (by decide) (by decide) (by decide) (by decide +kernel) (by decide +kernel)
theorem k_p8_4 (hw : k_Wf sc A) : k_rd A 0 4 = 12 := hw.2.2.1 0 4 (by decide) (by decide) (by decide) (by decide +kernel) (by decide +kernel)
theorem k_p8_5 (hw : k_Wf sc A) : k_rd A 0 5 = 18 := hw.2.2.1 0 5 (by decide) (by decide) (by decide) (by decide +kernel) (by decide +kernel)
theorem k_p9_1 (hw : k_Wf sc A) : k_rd A 120 1 = 121 := hw.2.2.1 120 1 (by decide) (by decide) (by decide) (by decide +kernel) (by decide +kernel)
theorem k_p9_5 (hw : k_Wf sc A) : k_rd A 120 5 = 122 := hw.2.2.1 120 5 (by decide) (by decide) (by decide) (by decide +kernel) (by decide +kernel)
theorem k_p9_6 (hw : k_Wf sc A) : k_rd A 120 6 = 123 := hw.2.2.1 120 6 (by decide) (by decide) (by decide) (by decide +kernel) (by decide +kernel)
theorem k_p9_7 (hw : k_Wf sc A) : k_rd A 120 7 = 124 := hw.2.2.1 120 7 (by decide) (by decide) (by decide) (by decide +kernel) (by decide +kernel)
theorem k_p9_8 (hw : k_Wf sc A) : k_rd A 120 8 = 125 := hw.2.2.1 120 8 (by decide) (by decide) (by decide) (by decide +kernel) (by decide +kernel)
theorem k_p9_9 (hw : k_Wf sc A) : k_rd A 120 9 = 126 := hw.2.2.1 120 9 (by decide) (by decide) (by decide) (by decide +kernel) (by decide +kernel)
theorem k_p9_10 (hw : k_Wf sc A) : k_rd A 120 10 = 127 := hw.2.2.1 120 10 (by decide) (by decide) (by decide) (by decide +kernel) (by decide +kernel)
theorem k_p9_11 (hw : k_Wf sc A) : k_rd A 120 11 = 128 := hw.2.2.1 120 11 (by decide) (by decide) (by decide) (by decide +kernel) (by decide +kernel)
theorem k_p9_12 (hw : k_Wf sc A) : k_rd A 120 12 = 129 := hw.2.2.1 120 12 (by decide) (by decide) (by decide) (by decide +kernel) (by decide +kernel)
theorem k_p9_13 (hw : k_Wf sc A) : k_rd A 120 13 = 130 := hw.2.2.1 120 13 (by decide) (by decide) (by decide) (by decide +kernel) (by decide +kernel)
theorem k_p9_14 (hw : k_Wf sc A) : k_rd A 120 14 = 131 := hw.2.2.1 120 14 (by decide) (by decide) (by decide) (by decide +kernel) (by decide +kernel)
theorem k_p9_15 (hw : k_Wf sc A) : k_rd A 120 15 = 132 := hw.2.2.1 120 15 (by decide) (by decide) (by decide) (by decide +kernel) (by decide +kernel)
theorem k_p9_16 (hw : k_Wf sc A) : k_rd A 120 16 = 133 := hw.2.2.1 120 16 (by decide) (by decide) (by decide) (by decide +kernel) (by decide +kernel)
theorem k_p9_17 (hw : k_Wf sc A) : k_rd A 120 17 = 134 := hw.2.2.1 120 17 (by decide) (by decide) (by decide) (by decide +kernel) (by decide +kernel)
theorem k_p9_18 (hw : k_Wf sc A) : k_rd A 120 18 = 135 := hw.2.2.1 120 18 (by decide) (by decide) (by decide) (by decide +kernel) (by decide +kernel)
theorem k_p9_19 (hw : k_Wf sc A) : k_rd A 120 19 = 136 := hw.2.2.1 120 19 (by decide) (by decide) (by decide) (by decide +kernel) (by decide +kernel)
theorem k_p9_22 (hw : k_Wf sc A) : k_rd A 120 22 = 137 := hw.2.2.1 120 22 (by decide) (by decide) (by decide) (by decide +kernel) (by decide +kernel)
theorem k_p9_23 (hw : k_Wf sc A) : k_rd A 120 23 = 138 := hw.2.2.1 120 23 (by decide) (by decide) (by decide) (by decide +kernel) (by decide +kernel)
theorem k_p9_24 (hw : k_Wf sc A) : k_rd A 120 24 = 139 := hw.2.2.1 120 24 (by decide) (by decide) (by decide) (by decide +kernel) (by decide +kernel)
theorem k_p9_25 (hw : k_Wf sc A) : k_rd A 120 25 = 140 := hw.2.2.1 120 25 (by decide) (by decide) (by decide) (by decide +kernel) (by decide +kernel)
theorem k_p9_26 (hw : k_Wf sc A) : k_rd A 120 26 = 141 := hw.2.2.1 120 26 (by decide) (by decide) (by decide) (by decide +kernel) (by decide +kernel)
theorem k_p9_27 (hw : k_Wf sc A) : k_rd A 120 27 = 142 := hw.2.2.1 120 27 (by decide) (by decide) (by decide) (by decide +kernel) (by decide +kernel)
theorem k_p9_28 (hw : k_Wf sc A) : k_rd A 120 28 = 143 := hw.2.2.1 120 28 (by decide) (by decide) (by decide) (by decide +kernel) (by decide +kernel)
theorem k_p9_29 (hw : k_Wf sc A) : k_rd A 120 29 = 144 := hw.2.2.1 120 29 (by decide) (by decide) (by decide) (by decide +kernel) (by decide +kernel)
theorem k_p9_30 (hw : k_Wf sc A) : k_rd A 120 30 = 145 := hw.2.2.1 120 30 (by decide) (by decide) (by decide) (by decide +kernel) (by decide +kernel)
theorem k_p9_31 (hw : k_Wf sc A) : k_rd A 120 31 = 146 := hw.2.2.1 120 31 (by decide) (by decide) (by decide) (by decide +kernel) (by decide +kernel)
theorem k_p9_32 (hw : k_Wf sc A) : k_rd A 120 32 = 147 := hw.2.2.1 120 32 (by decide) (by decide) (by decide) (by decide +kernel) (by decide +kernel)
theorem k_p9_33 (hw : k_Wf sc A) : k_rd A 120 33 = 148 := hw.2.2.1 120 33 (by decide) (by decide) (by decide) (by decide +kernel) (by decide +kernel)
theorem k_p9_34 (hw : k_Wf sc A) : k_rd A 120 34 = 149 := hw.2.2.1 120 34 (by decide) (by decide) (by decide) (by decide +kernel) (by decide +kernel)
theorem k_p9_35 (hw : k_Wf sc A) : k_rd A 120 35 = 150 := hw.2.2.1 120 35 (by decide) (by decide) (by decide) (by decide +kernel) (by decide +kernel)
end
