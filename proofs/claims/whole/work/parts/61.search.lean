/-! the class's search -/
def q_S (A : k_H) (f t g : Int → Int) (b : Int) : k_H := q_put (q_put (q_put (k_wt A 5 8 b) 6 f) 10 t) 11 g
section
variable {A : k_H} {f t g : Int → Int} {b : Int}
theorem q_S6 {j : Int} : k_rd (q_S A f t g b) 6 j = f j := by unfold q_S; rw [q_pn (by omega), q_pn (by omega), q_pe]
theorem q_S8 : k_rd (q_S A f t g b) 5 8 = b := by unfold q_S; rw [q_pn (by omega), q_pn (by omega), q_pn (by omega), p_rwe]
theorem q_Sn {a j : Int} (h : a ≠ 6 ∧ a ≠ 10 ∧ a ≠ 11 ∧ (a ≠ 5 ∨ j ≠ 8)) : k_rd (q_S A f t g b) a j = k_rd A a j := by
  unfold q_S; rw [q_pn (by omega), q_pn (by omega), q_pn (by omega), p_rwn (by omega)]
theorem q_S11 {j : Int} : k_rd (q_S A f t g b) 11 j = g j := by unfold q_S; rw [q_pe]
theorem q_Sw6 {i v : Int} : k_wt (q_S A f t g b) 6 i v = q_S A (q_up f i v) t g b := by
  unfold q_S; rw [q_pwn (by omega), q_pwn (by omega), q_pw]
theorem q_Sw10 {i v : Int} : k_wt (q_S A f t g b) 10 i v = q_S A f (q_up t i v) g b := by
  unfold q_S; rw [q_pwn (by omega), q_pw]
theorem q_Sw8 {v : Int} : k_wt (q_S A f t g b) 5 8 v = q_S A f t g v := by
  unfold q_S; rw [q_pwn (by omega), q_pwn (by omega), q_pwn (by omega), p_wtw]
theorem q_Scp {n : Int} : k_cp (q_S A f t g b) 10 0 11 0 n = q_S A f t (fun j => if 0 ≤ j ∧ j < n then t j else g j) b := by
  show (A.1, A.2.1, _) = (A.1, A.2.1, _)
  congr 2
  funext x y
  show (if x = 11 ∧ 0 ≤ y ∧ y < 0 + n then k_rd (q_S A f t g b) 10 (0 + (y - 0)) else k_rd (q_S A f t g b) x y) = k_rd (q_S A f t (fun j => if 0 ≤ j ∧ j < n then t j else g j) b) x y
  by_cases h : x = 11
  · subst h
    rw [q_S11, q_S11]
    by_cases h2 : 0 ≤ y ∧ y < n
    · have e : k_rd (q_S A f t g b) 10 (0 + (y - 0)) = t (0 + (y - 0)) := by unfold q_S; rw [q_pn (by omega), q_pe]
      rw [if_pos ⟨rfl, by omega, by omega⟩, if_pos h2, e]; congr 1; omega
    · rw [if_neg (by omega), if_neg h2]
  · rw [if_neg (by omega)]
    unfold q_S
    rw [q_pn h, q_pn h]
theorem c_like {c : Int} (hc : c < 4) : ∀ (d N : Nat) (i : Int), 0 ≤ i → i + d = c → ∃ r, gX3_isLikeOneAhead_h2 (N + d + 1) (q_S A f t g b) c i = some (r, q_S A f t g b) ∧ (r ≠ 0 → ∃ e : Int, 0 ≤ e ∧ e < c ∧ f e = f c) := by
  intro d
  induction d with
  | zero =>
    intro N i h0 h1
    exact ⟨0, by rw [gX3_isLikeOneAhead_h2, if_neg (by omega)], fun h => absurd rfl h⟩
  | succ d ih =>
    intro N i h0 h1
    show ∃ r, gX3_isLikeOneAhead_h2 ((N + d + 1) + 1) (q_S A f t g b) c i = _ ∧ _
    rw [gX3_isLikeOneAhead_h2, if_pos (by omega), if_pos (by omega), if_pos (by omega), q_S6, q_S6]
    by_cases q : f i = f c
    · rw [if_pos q]; exact ⟨1, rfl, fun _ => ⟨i, h0, by omega, q⟩⟩
    · rw [if_neg q, k_wr_of (x := i + 1) (by omega) (by omega)]; exact ih N (i + 1) (by omega) (by omega)
theorem c_likeA {c : Int} (hc : 0 ≤ c ∧ c < 4) : ∃ r, gX3_isLikeOneAhead (q_S A f t g b) c = some (r, q_S A f t g b) ∧ (r ≠ 0 → ∃ e : Int, 0 ≤ e ∧ e < c ∧ f e = f c) := by
  obtain ⟨N, hN⟩ := p_FU (c.toNat + 1) (by have : k_FU = 1073741824 := rfl; omega)
  unfold gX3_isLikeOneAhead gX3_isLikeOneAhead_b0
  rw [hN]
  exact c_like hc.2 c.toNat N 0 (by omega) (by omega)
theorem c_lack {m : Nat} {l af bf : Int} (hm : k_rd A 5 7 = m) (hm4 : m ≤ 4) (hl : 0 ≤ l ∧ l < 9) (hf : ∀ c : Int, 0 ≤ c → c < m → 0 ≤ f c ∧ f c ≤ 255) (h8 : k_rd A 8 l = af) (h9 : k_rd A 9 l = bf) (ha : 0 ≤ af ∧ af ≤ 2040) (hb : 0 ≤ bf ∧ bf ≤ 255) : gX3_lackAtLeast (q_S A f t g b) l = some (max 0 (max (af - p_sum f m) (bf - q_mx f m)), q_S A f t g b) := by
  unfold gX3_lackAtLeast gX3_lackAtLeast_b0
  obtain ⟨N, hN⟩ := p_FU (m + 1) (by have : k_FU = 1073741824 := rfl; omega)
  have bs : ∀ k : Nat, k ≤ m → 0 ≤ p_sum f k ∧ p_sum f k ≤ k * 255 := fun k hk => p_sumB k (fun i i0 i1 => hf i i0 (by omega))
  have st := p_it (fun N (p : Int × Int × Int) => gX3_lackAtLeast_h7 N (q_S A f t g b) l p.1 p.2.1 p.2.2) (fun k => (p_sum f k, q_mx f k, (k : Int))) m (fun N k hk => by
    show gX3_lackAtLeast_h7 (N + 1) (q_S A f t g b) l (p_sum f k) (q_mx f k) k = gX3_lackAtLeast_h7 N (q_S A f t g b) l (p_sum f k + f k) (max (q_mx f k) (f k)) ((k + 1 : Nat) : Int)
    have b0 := bs k (by omega)
    have b1 := hf k (by omega) (by omega)
    rw [gX3_lackAtLeast_h7, q_Sn (by omega), hm, if_pos (by omega), if_pos (by omega), q_S6, k_wr_of (x := p_sum f k + f k) (by omega) (by omega), k_wr_of (x := (k : Int) + 1) (by omega) (by omega)]
    rfl) (N + 1)
  have e : N + (m + 1) = (N + 1) + m := by omega
  rw [hN, e]
  refine st.trans ?_
  show gX3_lackAtLeast_h7 (N + 1) (q_S A f t g b) l (p_sum f m) (q_mx f m) m = _
  have b0 := bs m (by omega)
  have b1 : 0 ≤ q_mx f m := q_mx0 m
  have b2 : q_mx f m ≤ 255 := by
    have : ∀ k : Nat, k ≤ m → q_mx f k ≤ 255 := by
      intro k
      induction k with
      | zero => intro _; show (0 : Int) ≤ 255; omega
      | succ k ih =>
        intro hk
        show max (q_mx f k) (f k) ≤ 255
        have := ih (by omega)
        have := hf k (by omega) (by omega)
        omega
    exact this m (Nat.le_refl _)
  rw [gX3_lackAtLeast_h7, q_Sn (by omega), hm, if_neg (by omega), if_pos (by omega), if_pos (by omega), q_Sn (by omega), q_Sn (by omega), h8, h9, k_wr_of (x := af - p_sum f m) (by omega) (by omega), k_wr_of (x := bf - q_mx f m) (by omega) (by omega)]
end
def q_R (w : Int → Int) (m n : Int) (k : Nat) (l lack : Int) (f t g : Int → Int) (b : Int) (t' g' : Int → Int) (b' : Int) : Prop := (∀ j : Int, j < l → t' j = t j) ∧ (∀ a, q_va m k l a → b' ≤ lack + q_cost w k l f a) ∧ ((b' = b ∧ ∀ j : Int, 0 ≤ j → j < n → g' j = g j) ∨ (b' < b ∧ ∃ a, q_va m k l a ∧ b' = lack + q_cost w k l f a ∧ (∀ j : Int, 0 ≤ j → j < n → g' j = if j < l then t j else a j) ∧ ∀ a2, q_va m k l a2 → lack + q_cost w k l f a2 = b' → q_le k l a a2))
def q_J (w : Int → Int) (m n : Int) (k : Nat) (l lack c : Int) (f t g : Int → Int) (b : Int) (t' g' : Int → Int) (b' : Int) : Prop := (∀ j : Int, j < l → t' j = t j) ∧ (∀ a, q_va m k l a → a l < c → b' ≤ lack + q_cost w k l f a) ∧ ((b' = b ∧ ∀ j : Int, 0 ≤ j → j < n → g' j = g j) ∨ (b' < b ∧ ∃ a, q_va m k l a ∧ a l < c ∧ b' = lack + q_cost w k l f a ∧ (∀ j : Int, 0 ≤ j → j < n → g' j = if j < l then t j else a j) ∧ ∀ a2, q_va m k l a2 → a2 l < c → lack + q_cost w k l f a2 = b' → q_le k l a a2))
theorem q_Js {w : Int → Int} {m n : Int} {k : Nat} {l lack c : Int} {f t g : Int → Int} {b : Int} {t1 g1 : Int → Int} {b1 : Int} (J : q_J w m n (k + 1) l lack c f t g b t1 g1 b1) {e : Int} (he : 0 ≤ e ∧ e < c) (hc : c < m) (q : f e = f c) : q_J w m n (k + 1) l lack (c + 1) f t g b t1 g1 b1 := by
  refine ⟨J.1, fun a va ha => ?_, ?_⟩
  · by_cases z : a l < c
    · exact J.2.1 a va z
    · have z2 : a l = c := by omega
      rw [← q_costW q (k + 1) l a]
      refine J.2.1 _ (fun j x y => ?_) ?_
      · have := va j x y
        show 0 ≤ q_sw e c (a j) ∧ q_sw e c (a j) < m
        unfold q_sw; split
        · omega
        · split <;> omega
      · show q_sw e c (a l) < c
        unfold q_sw
        rw [if_neg (by omega), if_pos z2]; omega
  · rcases J.2.2 with h | ⟨h, a, va, a0, a1, a2, a3⟩
    · exact Or.inl h
    · refine Or.inr ⟨h, a, va, by omega, a1, a2, fun x vx hx ex => ?_⟩
      by_cases z : x l < c
      · exact a3 x vx z ex
      · exact Or.inl (by omega)
theorem q_Jn {w : Int → Int} {m n : Int} {k : Nat} {l lack c : Int} {f t g : Int → Int} {b : Int} {t1 g1 : Int → Int} {b1 : Int} (J : q_J w m n (k + 1) l lack c f t g b t1 g1 b1) (hc : 0 ≤ c ∧ c < m) {t2 g2 : Int → Int} {b2 : Int} (R : q_R w m n k (l + 1) (lack + max 0 (w l - f c)) (q_up f c (max 0 (f c - w l))) (q_up t1 l c) g1 b1 t2 g2 b2) : q_J w m n (k + 1) l lack (c + 1) f t g b t2 g2 b2 := by
  have b21 : b2 ≤ b1 := by rcases R.2.2 with h | h <;> omega
  have b10 : b1 ≤ b := by rcases J.2.2 with h | h <;> omega
  have cs : ∀ a : Int → Int, a l = c → q_cost w (k + 1) l f a = max 0 (w l - f c) + q_cost w k (l + 1) (q_up f c (max 0 (f c - w l))) a := fun a e => by rw [q_cost, e]
  have tj : ∀ j : Int, j < l → t2 j = t j := fun j hj => by rw [R.1 j (by omega), q_upn (by omega), J.1 j hj]
  refine ⟨tj, fun a va ha => ?_, ?_⟩
  · by_cases z : a l < c
    · have := J.2.1 a va z; omega
    · rw [cs a (by omega)]
      have := R.2.1 a (fun j x y => va j (by omega) (by omega))
      omega
  · rcases R.2.2 with h | ⟨h, a, va, a1, a2, a3⟩
    · rcases J.2.2 with h' | ⟨h', a, va, a0, a1, a2, a3⟩
      · exact Or.inl ⟨by omega, fun j x y => by rw [h.2 j x y, h'.2 j x y]⟩
      · refine Or.inr ⟨by omega, a, va, by omega, by omega, fun j x y => by rw [h.2 j x y, a2 j x y], fun x vx hx ex => ?_⟩
        by_cases z : x l < c
        · exact a3 x vx z (by omega)
        · exact Or.inl (by omega)
    · have ag : ∀ j : Int, l + 1 ≤ j → j < l + 1 + k → a j = q_up a l c j := fun j x y => (q_upn (by omega)).symm
      have ce : q_cost w (k + 1) l f (q_up a l c) = max 0 (w l - f c) + q_cost w k (l + 1) (q_up f c (max 0 (f c - w l))) a := by
        rw [cs _ q_upe, q_costE k (l + 1) _ a (q_up a l c) ag]
      refine Or.inr ⟨by omega, q_up a l c, fun j x y => ?_, by rw [q_upe]; omega, by rw [ce]; omega, fun j x y => ?_, fun x vx hx ex => ?_⟩
      · by_cases z : j = l
        · rw [z, q_upe]; exact hc
        · rw [q_upn z]; exact va j (by omega) (by omega)
      · rw [a2 j x y]
        by_cases z : j < l
        · rw [if_pos (by omega), if_pos z, q_upn (by omega), J.1 j z]
        · rw [if_neg z]
          by_cases z2 : j = l
          · rw [if_pos (by omega), z2, q_upe, q_upe]
          · rw [if_neg (by omega), q_upn z2]
      · by_cases z : x l < c
        · have := J.2.1 x vx z; omega
        · have xl : x l = c := by omega
          refine Or.inr ⟨by rw [q_upe, xl], ?_⟩
          refine q_leE k (l + 1) a x _ ag (a3 x (fun j x' y => vx j (by omega) (by omega)) ?_)
          rw [cs x xl] at ex
          omega
theorem c_search {A : k_H} {w : Int → Int} {n : Int} {m : Nat} (hn : k_rd A 5 6 = n) (hn8 : n ≤ 8) (hm : k_rd A 5 7 = m) (hm4 : m ≤ 4) (hw : ∀ j : Int, 0 ≤ j → j < n → k_rd A 7 j = w j ∧ 0 ≤ w j ∧ w j ≤ 255) (h8 : ∀ (k : Nat) (l : Int), 0 ≤ l → l + k = n → k_rd A 8 l = q_af w k l) (h9 : ∀ (k : Nat) (l : Int), 0 ≤ l → l + k = n → k_rd A 9 l = q_bf w k l) : ∀ (k M : Nat) (l lack : Int) (f t g : Int → Int) (b : Int), 0 ≤ l → l + k = n → 0 ≤ lack → lack ≤ 255 * l → (∀ c : Int, 0 ≤ c → c < m → 0 ≤ f c ∧ f c ≤ 255) → 0 ≤ b → b ≤ 5000 → ∃ t' g' b', gX3_search_N (M + k + 1) (q_S A f t g b) l lack = some (0, q_S A f t' g' b') ∧ q_R w m n k l lack f t g b t' g' b' := by
  intro k
  induction k with
  | zero =>
    intro M l lack f t g b l0 lk a0 a1 hf b0 b1
    rw [gX3_search_N]
    unfold gX3_search_b0
    rw [q_Sn (by omega), hn, if_pos (by omega)]
    unfold gX3_keep gX3_keep_b0
    rw [q_S8]
    by_cases z : lack < b
    · rw [if_pos z, p_lt, q_Sw8, q_Sn (by omega), hn, if_pos (by omega), p_lt, q_Scp, k_bds]
      refine ⟨t, _, lack, rfl, fun j _ => rfl, fun a _ => by rw [q_cost]; omega, Or.inr ⟨z, t, fun j x y => by omega, by rw [q_cost]; omega, fun j x y => ?_, fun _ _ _ => trivial⟩⟩
      rw [if_pos (by omega)]; exact if_pos ⟨x, y⟩
    · rw [if_neg z, k_bds]
      exact ⟨t, g, b, rfl, fun j _ => rfl, fun a _ => by rw [q_cost]; omega, Or.inl ⟨rfl, fun _ _ _ => rfl⟩⟩
  | succ k ih =>
    intro M l lack f t g b l0 lk a0 a1 hf b0 b1
    show ∃ t' g' b', gX3_search_N ((M + k + 1) + 1) (q_S A f t g b) l lack = _ ∧ _
    have wl := hw l l0 (by omega)
    have afb := q_afB (w := w) (B := 255) (k + 1) l (fun j x y => (hw j (by omega) (by omega)).2)
    have bfb := q_bfB (w := w) (B := 255) (by omega) (k + 1) l (fun j x y => (hw j (by omega) (by omega)).2)
    rw [gX3_search_N]
    unfold gX3_search_b0
    rw [q_Sn (by omega), hn, if_neg (by omega), c_lack hm hm4 (by omega) hf (h8 (k + 1) l l0 lk) (h9 (k + 1) l l0 lk) (by omega) bfb, k_bds, q_S8]
    have lb := fun a va => q_lb (w := w) (m := m) (k + 1) l f a va (fun c x y => (hf c x y).1) (fun j x y => (hw j (by omega) (by omega)).2.1)
    have mb : 0 ≤ p_sum f m := (p_sumB (f := f) (B := 255) m (fun i i0 i1 => hf i i0 i1)).1
    have mb2 := q_mx0 (f := f) m
    generalize hL : max 0 (max (q_af w (k + 1) l - p_sum f m) (q_bf w (k + 1) l - q_mx f m)) = L at lb ⊢
    rw [k_wr_of (x := lack + L) (by omega) (by omega)]
    by_cases z : b ≤ lack + L
    · rw [if_pos z]
      exact ⟨t, g, b, rfl, fun j _ => rfl, fun a va => by have := lb a va; omega, Or.inl ⟨rfl, fun _ _ _ => rfl⟩⟩
    · rw [if_neg z, if_pos (by omega), q_Sn (by omega), wl.1]
      have lp : ∀ (d K : Nat) (c : Int) (t1 g1 : Int → Int) (b1 : Int), 0 ≤ c → c + d = m → q_J w m n (k + 1) l lack c f t g b t1 g1 b1 → 0 ≤ b1 → b1 ≤ 5000 → ∃ t' g' b', gX3_search_h39 (gX3_search_N (M + k + 1)) (K + d + 1) (q_S A f t1 g1 b1) l lack (w l) c = some (0, q_S A f t' g' b') ∧ q_J w m n (k + 1) l lack m f t g b t' g' b' := by
        intro d
        induction d with
        | zero =>
          intro K c t1 g1 b1 c0 cd J _ _
          have : c = m := by omega
          subst this
          exact ⟨t1, g1, b1, by rw [gX3_search_h39, q_Sn (by omega), hm, if_neg (by omega)], J⟩
        | succ d ihd =>
          intro K c t1 g1 b1 c0 cd J p0 p1
          show ∃ t' g' b', gX3_search_h39 (gX3_search_N (M + k + 1)) ((K + d + 1) + 1) (q_S A f t1 g1 b1) l lack (w l) c = _ ∧ _
          obtain ⟨r, lr, lx⟩ := c_likeA (A := A) (f := f) (t := t1) (g := g1) (b := b1) (c := c) (by omega)
          have fc := hf c c0 (by omega)
          rw [gX3_search_h39, q_Sn (by omega), hm, if_pos (by omega), lr, k_bds]
          simp only [gX3_search_b118]
          rw [k_wr_of (x := c + 1) (by omega) (by omega)]
          by_cases r0 : r = 0
          · rw [if_pos r0, if_pos (by omega), p_lt, if_pos (by omega), p_lt, q_S6, q_Sw6, q_Sw10, k_wr_of (x := f c - w l) (by omega) (by omega), k_wr_of (x := w l - f c) (by omega) (by omega), k_wr_of (x := l + 1) (by omega) (by omega), k_wr_of (x := lack + max 0 (w l - f c)) (by omega) (by omega)]
            obtain ⟨t2, g2, b2, e2, R2⟩ := ih M (l + 1) (lack + max 0 (w l - f c)) (q_up f c (max 0 (f c - w l))) (q_up t1 l c) g1 b1 (by omega) (by omega) (by omega) (by omega) (fun x x0 x1 => by
              unfold q_up; split
              · omega
              · exact hf x x0 x1) p0 p1
            rw [e2, k_bds, p_lt, q_Sw6, q_upb rfl]
            have cz := q_cost0 (w := w) k (l + 1) (q_up f c (max 0 (f c - w l)))
            refine ihd K (c + 1) t2 g2 b2 (by omega) (by omega) (q_Jn J (by omega) R2) ?_ ?_
            · rcases R2.2.2 with h | ⟨h, a, _, h2, _⟩
              · omega
              · have := cz a; omega
            · rcases R2.2.2 with h | h <;> omega
          · rw [if_neg r0]
            obtain ⟨e, ea, eb, ec⟩ := lx r0
            exact ihd K (c + 1) t1 g1 b1 (by omega) (by omega) (q_Js J ⟨ea, eb⟩ (by omega) ec) p0 p1
      obtain ⟨K, hK⟩ := p_FU (m + 1) (by have : k_FU = 1073741824 := rfl; omega)
      rw [hK]
      obtain ⟨t', g', b', e', J'⟩ := lp m K 0 t g b (by omega) (by omega) ⟨fun _ _ => rfl, fun a va ha => by have := va l (by omega) (by omega); omega, Or.inl ⟨rfl, fun _ _ _ => rfl⟩⟩ b0 b1
      refine ⟨t', g', b', e', J'.1, fun a va => J'.2.1 a va (va l (by omega) (by omega)).2, ?_⟩
      rcases J'.2.2 with h | ⟨h, a, va, _, x1, x2, x3⟩
      · exact Or.inl h
      · exact Or.inr ⟨h, a, va, x1, x2, fun a2 va2 => x3 a2 va2 (va2 l (by omega) (by omega)).2⟩
