/-! the reference's plug -/
def q_P (A : k_H) (i g : Int → Int) : k_H := q_put (q_put A 137 i) 138 g
section
variable {A : k_H} {i g : Int → Int} {j x v : Int}
theorem q_P8 : k_rd (q_P A i g) 137 j = i j := by unfold q_P; rw [q_pn (by omega), q_pe]
theorem q_P9 : k_rd (q_P A i g) 138 j = g j := by unfold q_P; rw [q_pe]
theorem q_Pn {a : Int} (h : a ≠ 137 ∧ a ≠ 138) : k_rd (q_P A i g) a j = k_rd A a j := by unfold q_P; rw [q_pn h.2, q_pn h.1]
theorem q_Pw8 : k_wt (q_P A i g) 137 x v = q_P A (q_up i x v) g := by unfold q_P; rw [q_pwn (by omega), q_pw]
theorem q_Pw9 : k_wt (q_P A i g) 138 x v = q_P A i (q_up g x v) := by unfold q_P; rw [q_pw]
theorem q_Pid : q_P A (k_rd A 137) (k_rd A 138) = A := by unfold q_P; rw [q_pid, q_pid]
end
def q_fr (P g : Int → Int) (c : Int) : Int := P c - g c
theorem q_fr1 {P g : Int → Int} {c w : Int} (h : w ≤ P c - g c) : q_fr P (q_up g c (g c + w)) = q_up (q_fr P g) c (max 0 (q_fr P g c - w)) := by
  funext x
  unfold q_fr
  by_cases q : x = c
  · subst q; rw [q_upe, q_upe]; omega
  · rw [q_upn q, q_upn q]
theorem q_costF {w : Int → Int} {m : Int} : ∀ (k : Nat) (l : Int) (f f2 a : Int → Int), q_va m k l a → (∀ c : Int, 0 ≤ c → c < m → f c = f2 c) → q_cost w k l f a = q_cost w k l f2 a := by
  intro k
  induction k with
  | zero => intro l f f2 a _ _; rfl
  | succ k ih =>
    intro l f f2 a va h
    have v := va l (by omega) (by omega)
    rw [q_cost, q_cost, h _ v.1 v.2, ih _ _ (q_up f2 (a l) (max 0 (f2 (a l) - w l))) a (fun j x y => va j (by omega) (by omega)) (fun c x y => by
      unfold q_up; split
      · rfl
      · exact h c x y)]
def q_FB : Nat → Nat
  | 0 => 1
  | k + 1 => 4 * (q_FB k + 1) + 1
theorem m_plug {A : k_H} {s h n : Int} {m : Nat} {P w : Int → Int} (hs : 0 ≤ s ∧ s < 6) (hh : 0 ≤ h ∧ h < 12) (hn : k_rd A 130 s = n) (hn8 : n ≤ 8) (hm : k_rd A 126 h = m) (hm4 : m ≤ 4) (hP : ∀ c : Int, 0 ≤ c → c < m → k_rd A 127 (4 * h + c) = P c ∧ 0 ≤ P c ∧ P c ≤ 255) (hw : ∀ j : Int, 0 ≤ j → j < n → k_rd A 131 (8 * s + j) = w j ∧ 0 ≤ w j ∧ w j ≤ 255) : ∀ (k : Nat) (l : Int) (i g : Int → Int), 0 ≤ l → l + k = n → (∀ j : Int, l ≤ j → j < 8 → i j = -1) → (∀ c : Int, 0 ≤ c → c < 4 → 0 ≤ g c ∧ g c ≤ 255 * l) → ∃ J, J ≤ q_FB k ∧ ((∃ a i' g', q_va m k l a ∧ q_cost w k l (q_fr P g) a = 0 ∧ (∀ a2, q_va m k l a2 → q_cost w k l (q_fr P g) a2 = 0 → q_le k l a a2) ∧ (∀ j : Int, 0 ≤ j → j < n → i' j = if j < l then i j else a j) ∧ ∀ N, gX9_plug_h46 (N + J) (q_P A i g) s h l = some (1, q_P A i' g')) ∨ ((∀ a, q_va m k l a → q_cost w k l (q_fr P g) a ≠ 0) ∧ ∀ N, gX9_plug_h46 (N + J) (q_P A i g) s h l = if l = 0 then some (0, q_P A i g) else gX9_plug_h46 N (q_P A i g) s h (l - 1))) := by
  intro k
  induction k with
  | zero =>
    intro l i g l0 lk hi hg
    refine ⟨1, Nat.le_refl _, Or.inl ⟨i, i, g, fun j x y => by omega, rfl, fun _ _ _ => trivial, fun j x y => by rw [if_pos (by omega)], fun N => ?_⟩⟩
    rw [gX9_plug_h46, if_pos (by omega), q_Pn (by omega), hn, if_neg (by omega)]
  | succ k ih =>
    intro l i g l0 lk hi hg
    have wl := hw l l0 (by omega)
    have il := hi l (by omega) (by omega)
    have hd : ∀ (N : Nat) (c : Int) (i1 g1 : Int → Int), i1 l = c → -1 ≤ c → c < 4 → (c < 0 → g1 = g) → (0 ≤ c → g1 = q_up g c (g c + w l)) → gX9_plug_h46 (N + 1) (q_P A i1 g1) s h l = gX9_plug_h104 (gX9_plug_h46 N) k_FU (q_P A (q_up i1 l (c + 1)) g) s h l (w l) := by
      intro N c i1 g1 e1 c0 c1 g0 gp
      rw [gX9_plug_h46, if_pos (by omega), q_Pn (by omega), hn, if_pos (by omega), k_wr_of (x := 8 * s) (by omega) (by omega), k_wr_of (x := 8 * s + l) (by omega) (by omega), if_pos (by omega), if_pos (by omega), q_P8, e1, q_Pn (a := 131) (by omega), wl.1]
      unfold gX9_plug_b94
      by_cases z : c < 0
      · rw [if_neg (by omega), if_pos (by omega), p_lt, q_P8, e1, q_Pw8, k_wr_of (x := c + 1) (by omega) (by omega), g0 z]
      · have gc := hg c (by omega) c1
        rw [if_pos (by omega), if_pos (by omega), p_lt, if_pos (by omega), p_lt, q_P9, q_Pw9, q_P8, e1, q_Pw8, k_wr_of (x := c + 1) (by omega) (by omega), gp (by omega), q_upe, k_wr_of (x := g c + w l - w l) (by omega) (by omega), q_upb (by omega)]
    have sc : ∀ (d : Nat) (c : Int), 0 ≤ c → c + d = m → ∃ J, J ≤ d * (q_FB k + 1) ∧ ((∃ a i' g', q_va m (k + 1) l a ∧ c ≤ a l ∧ q_cost w (k + 1) l (q_fr P g) a = 0 ∧ (∀ a2, q_va m (k + 1) l a2 → c ≤ a2 l → q_cost w (k + 1) l (q_fr P g) a2 = 0 → q_le (k + 1) l a a2) ∧ (∀ j : Int, 0 ≤ j → j < n → i' j = if j < l then i j else a j) ∧ ∀ N K, gX9_plug_h104 (gX9_plug_h46 (N + J)) (K + d + 1) (q_P A (q_up i l c) g) s h l (w l) = some (1, q_P A i' g')) ∨ ((∀ a, q_va m (k + 1) l a → c ≤ a l → q_cost w (k + 1) l (q_fr P g) a ≠ 0) ∧ ∀ N K, gX9_plug_h104 (gX9_plug_h46 (N + J)) (K + d + 1) (q_P A (q_up i l c) g) s h l (w l) = if l = 0 then some (0, q_P A i g) else gX9_plug_h46 N (q_P A i g) s h (l - 1))) := by
      intro d
      induction d with
      | zero =>
        intro c c0 cd
        refine ⟨0, by omega, Or.inr ⟨fun a va ha => by have := va l (by omega) (by omega); omega, fun N K => ?_⟩⟩
        rw [gX9_plug_h104, if_pos (by omega), if_pos (by omega), q_P8, q_upe, q_Pn (by omega), hm, if_neg (by omega)]
        unfold gX9_plug_b164
        rw [if_pos (by omega), if_pos (by omega), q_P8, q_upe, q_Pn (by omega), hm, if_neg (by omega), p_lt, q_Pw8, q_upb il, k_wr_of (x := l + -1) (by omega) (by omega)]
        by_cases z : l = 0
        · rw [if_pos (by omega), if_pos z]
        · rw [if_neg (by omega), if_neg z]; rfl
      | succ d ihd =>
        intro c c0 cd
        have gc := hg c c0 (by omega)
        have pc := hP c c0 (by omega)
        have F0 : q_fr P g c = P c - g c := rfl
        have cs : ∀ a : Int → Int, a l = c → q_cost w (k + 1) l (q_fr P g) a = max 0 (w l - q_fr P g c) + q_cost w k (l + 1) (q_up (q_fr P g) c (max 0 (q_fr P g c - w l))) a := fun a e => by rw [q_cost, e]
        have hd1 : ∀ (kk : k_H → Int → Int → Int → Option (Int × k_H)) (K : Nat), gX9_plug_h104 kk (K + (d + 1) + 1) (q_P A (q_up i l c) g) s h l (w l) = if P c < g c + w l then gX9_plug_h104 kk (K + d + 1) (q_P A (q_up i l (c + 1)) g) s h l (w l) else kk (q_P A (q_up i l c) (q_up g c (g c + w l))) s h (l + 1) := by
          intro kk K
          show gX9_plug_h104 kk ((K + d + 1) + 1) (q_P A (q_up i l c) g) s h l (w l) = _
          rw [gX9_plug_h104, if_pos (by omega), if_pos (by omega), q_P8, q_upe, q_Pn (by omega), hm, if_pos (by omega), if_pos (by omega), k_wr_of (x := 4 * h) (by omega) (by omega), k_wr_of (x := 4 * h + c) (by omega) (by omega), if_pos (by omega), q_Pn (by omega), pc.1, q_P9, k_wr_of (x := g c + w l) (by omega) (by omega), p_lt, q_Pw8, q_upu, k_wr_of (x := c + 1) (by omega) (by omega)]
          unfold gX9_plug_b164
          rw [if_pos (by omega : 0 ≤ l ∧ l < ((8 : Nat) : Int)), if_pos (by omega : 0 ≤ h ∧ h < ((12 : Nat) : Int)), q_P8, q_upe, q_Pn (by omega), hm, if_pos (by omega : c < (m : Int)), if_pos (by omega : 0 ≤ c ∧ c < ((4 : Nat) : Int)), p_lt, q_P9, q_Pw9, k_wr_of (x := g c + w l) (by omega) (by omega), k_wr_of (x := l + 1) (by omega) (by omega)]
        by_cases z : P c < g c + w l
        · obtain ⟨J, Jb, hJ⟩ := ihd (c + 1) (by omega) (by omega)
          have no : ∀ a, q_va m (k + 1) l a → c ≤ a l → q_cost w (k + 1) l (q_fr P g) a = 0 → c + 1 ≤ a l := by
            intro a va ha e
            by_cases y : a l = c
            · rw [cs a y] at e
              have := q_cost0 (w := w) k (l + 1) (q_up (q_fr P g) c (max 0 (q_fr P g c - w l))) a
              omega
            · omega
          refine ⟨J, by rw [Nat.add_mul]; omega, ?_⟩
          rcases hJ with ⟨a, i', g', va, a0, a1, a2, a3, a4⟩ | ⟨b0, b1⟩
          · refine Or.inl ⟨a, i', g', va, by omega, a1, fun x vx hx ex => a2 x vx (no x vx hx ex) ex, a3, fun N K => ?_⟩
            rw [hd1, if_pos z]; exact a4 N K
          · refine Or.inr ⟨fun a va ha e => b0 a va (no a va ha e) e, fun N K => ?_⟩
            rw [hd1, if_pos z]; exact b1 N K
        · have fe := q_fr1 (P := P) (g := g) (c := c) (w := w l) (by omega)
          obtain ⟨J1, Jb1, hJ1⟩ := ih (l + 1) (q_up i l c) (q_up g c (g c + w l)) (by omega) (by omega) (fun j x y => by rw [q_upn (by omega)]; exact hi j (by omega) y) (fun x x0 x1 => by
            have := hg x x0 x1
            unfold q_up; split <;> omega)
          rw [fe] at hJ1
          have mx : max 0 (w l - q_fr P g c) = 0 := by omega
          rcases hJ1 with ⟨a, i', g', va, a1, a2, a3, a4⟩ | ⟨b0, b1⟩
          · have ag : ∀ j : Int, l + 1 ≤ j → j < l + 1 + k → a j = q_up a l c j := fun j x y => (q_upn (by omega)).symm
            refine ⟨J1, by rw [Nat.add_mul]; omega, Or.inl ⟨q_up a l c, i', g', fun j x y => ?_, by rw [q_upe]; omega, ?_, fun x vx hx ex => ?_, fun j x y => ?_, fun N K => ?_⟩⟩
            · by_cases y2 : j = l
              · rw [y2, q_upe]; omega
              · rw [q_upn y2]; exact va j (by omega) (by omega)
            · rw [cs _ q_upe, mx, ← q_costE k (l + 1) _ a (q_up a l c) ag, a1]; rfl
            · by_cases y2 : x l = c
              · refine Or.inr ⟨by rw [q_upe, y2], q_leE k (l + 1) a x _ ag (a2 x (fun j x' y => vx j (by omega) (by omega)) ?_)⟩
                rw [cs x y2] at ex; omega
              · exact Or.inl (by rw [q_upe]; omega)
            · rw [a3 j x y]
              by_cases y2 : j < l
              · rw [if_pos (by omega), if_pos y2, q_upn (by omega)]
              · rw [if_neg y2]
                by_cases y3 : j = l
                · rw [if_pos (by omega), y3, q_upe, q_upe]
                · rw [if_neg (by omega), q_upn y3]
            · rw [hd1, if_neg z]; exact a4 N
          · have no : ∀ a, q_va m (k + 1) l a → c ≤ a l → q_cost w (k + 1) l (q_fr P g) a = 0 → c + 1 ≤ a l := by
              intro a va ha e
              by_cases y : a l = c
              · rw [cs a y] at e
                exact absurd (by omega) (b0 a (fun j x y => va j (by omega) (by omega)))
              · omega
            obtain ⟨J2, Jb2, hJ2⟩ := ihd (c + 1) (by omega) (by omega)
            obtain ⟨K2, hK2⟩ := p_FU (d + 1) (by have : k_FU = 1073741824 := rfl; omega)
            have bk : ∀ N K, gX9_plug_h104 (gX9_plug_h46 (N + (J2 + 1 + J1))) (K + (d + 1) + 1) (q_P A (q_up i l c) g) s h l (w l) = gX9_plug_h104 (gX9_plug_h46 (N + J2)) (K2 + d + 1) (q_P A (q_up i l (c + 1)) g) s h l (w l) := by
              intro N K
              have e1 : N + (J2 + 1 + J1) = (N + J2 + 1) + J1 := by omega
              rw [hd1, if_neg z, e1, b1, if_neg (by omega), Int.add_sub_cancel, hd (N + J2) c (q_up i l c) (q_up g c (g c + w l)) q_upe (by omega) (by omega) (by omega) (fun _ => rfl), q_upu, hK2]
              rfl
            refine ⟨J2 + 1 + J1, by rw [Nat.add_mul]; omega, ?_⟩
            rcases hJ2 with ⟨a, i', g', va, a0, a1, a2, a3, a4⟩ | ⟨d0, d1⟩
            · refine Or.inl ⟨a, i', g', va, by omega, a1, fun x vx hx ex => a2 x vx (no x vx hx ex) ex, a3, fun N K => ?_⟩
              rw [bk]; exact a4 N K2
            · refine Or.inr ⟨fun a va ha e => d0 a va (no a va ha e) e, fun N K => ?_⟩
              rw [bk]; exact d1 N K2
    obtain ⟨J, Jb, hJ⟩ := sc m 0 (by omega) (by omega)
    obtain ⟨K2, hK2⟩ := p_FU (m + 1) (by have : k_FU = 1073741824 := rfl; omega)
    have bk : ∀ N, gX9_plug_h46 (N + (J + 1)) (q_P A i g) s h l = gX9_plug_h104 (gX9_plug_h46 (N + J)) (K2 + m + 1) (q_P A (q_up i l 0) g) s h l (w l) := by
      intro N
      show gX9_plug_h46 ((N + J) + 1) (q_P A i g) s h l = _
      rw [hd (N + J) (-1) i g il (by omega) (by omega) (fun _ => rfl) (by omega), hK2]
      rfl
    have Jm : m * (q_FB k + 1) ≤ 4 * (q_FB k + 1) := Nat.mul_le_mul_right _ hm4
    refine ⟨J + 1, by rw [q_FB]; omega, ?_⟩
    rcases hJ with ⟨a, i', g', va, a0, a1, a2, a3, a4⟩ | ⟨d0, d1⟩
    · refine Or.inl ⟨a, i', g', va, a1, fun x vx ex => a2 x vx (vx l (by omega) (by omega)).1 ex, a3, fun N => ?_⟩
      rw [bk]; exact a4 N K2
    · refine Or.inr ⟨fun a va e => d0 a va (va l (by omega) (by omega)).1 e, fun N => ?_⟩
      rw [bk]; exact d1 N K2
