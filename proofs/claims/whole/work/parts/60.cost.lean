/-! lamps in circuits: the cost of a way -/
def q_up (f : Int → Int) (i v : Int) (j : Int) : Int := if j = i then v else f j
theorem q_upe {f : Int → Int} {i v : Int} : q_up f i v i = v := if_pos rfl
theorem q_upn {f : Int → Int} {i v j : Int} (h : j ≠ i) : q_up f i v j = f j := if_neg h
theorem q_upu {f : Int → Int} {i u v : Int} : q_up (q_up f i u) i v = q_up f i v := by
  funext j; unfold q_up; split <;> rfl
theorem q_upb {f : Int → Int} {i u v : Int} (h : f i = v) : q_up (q_up f i u) i v = f := by
  funext j
  by_cases q : j = i
  · subst q; rw [q_upe, h]
  · rw [q_upn q, q_upn q]
def q_cost (w : Int → Int) : Nat → Int → (Int → Int) → (Int → Int) → Int
  | 0, _, _, _ => 0
  | k + 1, l, f, a => max 0 (w l - f (a l)) + q_cost w k (l + 1) (q_up f (a l) (max 0 (f (a l) - w l))) a
def q_va (m : Int) (k : Nat) (l : Int) (a : Int → Int) : Prop := ∀ j : Int, l ≤ j → j < l + k → 0 ≤ a j ∧ a j < m
def q_le : Nat → Int → (Int → Int) → (Int → Int) → Prop
  | 0, _, _, _ => True
  | k + 1, l, a, b => a l < b l ∨ (a l = b l ∧ q_le k (l + 1) a b)
section
variable {w : Int → Int}
theorem q_costE : ∀ (k : Nat) (l : Int) (f a b : Int → Int), (∀ j : Int, l ≤ j → j < l + k → a j = b j) → q_cost w k l f a = q_cost w k l f b := by
  intro k
  induction k with
  | zero => intro l f a b _; rfl
  | succ k ih =>
    intro l f a b h
    rw [q_cost, q_cost, h l (by omega) (by omega), ih _ _ a b (fun j x y => h j (by omega) (by omega))]
theorem q_cost0 : ∀ (k : Nat) (l : Int) (f a : Int → Int), 0 ≤ q_cost w k l f a := by
  intro k
  induction k with
  | zero => intro l f a; exact Int.le_refl _
  | succ k ih =>
    intro l f a
    rw [q_cost]
    have := ih (l + 1) (q_up f (a l) (max 0 (f (a l) - w l))) a
    omega
def q_sw (c d x : Int) : Int := if x = c then d else if x = d then c else x
theorem q_swsw (c d x : Int) : q_sw c d (q_sw c d x) = x := by
  unfold q_sw
  by_cases h : x = c
  · rw [if_pos h]
    by_cases h2 : d = c
    · rw [if_pos h2]; omega
    · rw [if_neg h2, if_pos rfl]; omega
  · rw [if_neg h]
    by_cases h3 : x = d
    · rw [if_pos h3, if_pos rfl]; omega
    · rw [if_neg h3, if_neg h, if_neg h3]
theorem q_costS {c d : Int} : ∀ (k : Nat) (l : Int) (f a : Int → Int), q_cost w k l (fun x => f (q_sw c d x)) (fun j => q_sw c d (a j)) = q_cost w k l f a := by
  intro k
  induction k with
  | zero => intro l f a; rfl
  | succ k ih =>
    intro l f a
    rw [q_cost, q_cost]
    have e : ∀ v, q_up (fun x => f (q_sw c d x)) (q_sw c d (a l)) v = fun x => q_up f (a l) v (q_sw c d x) := by
      intro v
      funext x
      unfold q_up
      by_cases h : x = q_sw c d (a l)
      · rw [if_pos h, if_pos (by rw [h, q_swsw])]
      · rw [if_neg h, if_neg (fun e => h (by rw [← e, q_swsw]))]
    simp only [q_swsw]
    rw [e, ih]
theorem q_costW {f : Int → Int} {c d : Int} (h : f c = f d) (k : Nat) (l : Int) (a : Int → Int) : q_cost w k l f (fun j => q_sw c d (a j)) = q_cost w k l f a := by
  have e : (fun x => f (q_sw c d x)) = f := by
    funext x
    unfold q_sw
    by_cases q : x = c
    · rw [if_pos q, q, h]
    · rw [if_neg q]
      by_cases q2 : x = d
      · rw [if_pos q2, q2, h]
      · rw [if_neg q2]
  have := q_costS (w := w) (c := c) (d := d) k l f a
  rw [e] at this
  exact this
theorem q_leE : ∀ (k : Nat) (l : Int) (a b a2 : Int → Int), (∀ j : Int, l ≤ j → j < l + k → a j = a2 j) → q_le k l a b → q_le k l a2 b := by
  intro k
  induction k with
  | zero => intro l a b a2 _ _; exact trivial
  | succ k ih =>
    intro l a b a2 h q
    have e := h l (by omega) (by omega)
    rcases q with q | q
    · exact Or.inl (by omega)
    · exact Or.inr ⟨by omega, ih _ a b a2 (fun j x y => h j (by omega) (by omega)) q.2⟩
theorem q_leA : ∀ (k : Nat) (l : Int) (a b : Int → Int), q_le k l a b → q_le k l b a → ∀ j : Int, l ≤ j → j < l + k → a j = b j := by
  intro k
  induction k with
  | zero => intro l a b _ _ j x y; exfalso; omega
  | succ k ih =>
    intro l a b p q j x y
    have h : a l = b l := by
      rcases p with p | p <;> rcases q with q | q <;> omega
    have p2 : q_le k (l + 1) a b := by rcases p with p | p; (exfalso; omega); exact p.2
    have q2 : q_le k (l + 1) b a := by rcases q with q | q; (exfalso; omega); exact q.2
    by_cases z : j = l
    · rw [z]; exact h
    · exact ih (l + 1) a b p2 q2 j (by omega) (by omega)
theorem p_sumU {f : Int → Int} {c v : Int} : ∀ m : Nat, 0 ≤ c → c < m → p_sum (q_up f c v) m = p_sum f m - f c + v := by
  intro m
  induction m with
  | zero => intro a b; exfalso; omega
  | succ m ih =>
    intro a b
    show p_sum (q_up f c v) m + q_up f c v m = p_sum f m + f m - f c + v
    by_cases h : c = m
    · rw [h, q_upe, p_sumE (g := f) m (fun i x y => q_upn (by omega))]; omega
    · rw [q_upn (by omega), ih a (by omega)]; omega
def q_mx (f : Int → Int) : Nat → Int
  | 0 => 0
  | c + 1 => max (q_mx f c) (f c)
theorem q_mx0 {f : Int → Int} : ∀ m : Nat, 0 ≤ q_mx f m := by
  intro m
  induction m with
  | zero => exact Int.le_refl _
  | succ m ih => show 0 ≤ max (q_mx f m) (f m); omega
theorem q_mxB {f : Int → Int} {c : Int} : ∀ m : Nat, 0 ≤ c → c < m → f c ≤ q_mx f m := by
  intro m
  induction m with
  | zero => intro a b; exfalso; omega
  | succ m ih =>
    intro a b
    show f c ≤ max (q_mx f m) (f m)
    by_cases h : c = m
    · rw [h]; omega
    · have := ih a (by omega); omega
theorem q_mxU {f : Int → Int} {c v : Int} (h : v ≤ f c) : ∀ m : Nat, q_mx (q_up f c v) m ≤ q_mx f m := by
  intro m
  induction m with
  | zero => exact Int.le_refl _
  | succ m ih =>
    show max (q_mx (q_up f c v) m) (q_up f c v m) ≤ max (q_mx f m) (f m)
    by_cases q : (m : Int) = c
    · rw [q, q_upe]; omega
    · rw [q_upn q]; omega
def q_af (w : Int → Int) : Nat → Int → Int
  | 0, _ => 0
  | k + 1, l => q_af w k (l + 1) + w l
def q_bf (w : Int → Int) : Nat → Int → Int
  | 0, _ => 0
  | k + 1, l => max (q_bf w k (l + 1)) (w l)
theorem q_afB {B : Int} : ∀ (k : Nat) (l : Int), (∀ j : Int, l ≤ j → j < l + k → 0 ≤ w j ∧ w j ≤ B) → 0 ≤ q_af w k l ∧ q_af w k l ≤ k * B := by
  intro k
  induction k with
  | zero => intro l _; exact ⟨Int.le_refl _, by simp [q_af]⟩
  | succ k ih =>
    intro l h
    have h1 := ih (l + 1) (fun j x y => h j (by omega) (by omega))
    have h2 := h l (by omega) (by omega)
    have e : ((k + 1 : Nat) : Int) * B = k * B + B := by rw [Int.natCast_add, Int.add_mul]; simp
    rw [e, q_af]
    omega
theorem q_bfB {B : Int} (hB : 0 ≤ B) : ∀ (k : Nat) (l : Int), (∀ j : Int, l ≤ j → j < l + k → 0 ≤ w j ∧ w j ≤ B) → 0 ≤ q_bf w k l ∧ q_bf w k l ≤ B := by
  intro k
  induction k with
  | zero => intro l _; exact ⟨Int.le_refl _, hB⟩
  | succ k ih =>
    intro l h
    have h1 := ih (l + 1) (fun j x y => h j (by omega) (by omega))
    have h2 := h l (by omega) (by omega)
    rw [q_bf]
    omega
theorem q_lb {m : Nat} : ∀ (k : Nat) (l : Int) (f a : Int → Int), q_va m k l a → (∀ c : Int, 0 ≤ c → c < m → 0 ≤ f c) → (∀ j : Int, l ≤ j → j < l + k → 0 ≤ w j) → max 0 (max (q_af w k l - p_sum f m) (q_bf w k l - q_mx f m)) ≤ q_cost w k l f a := by
  intro k
  induction k with
  | zero =>
    intro l f a _ hf _
    have h1 : 0 ≤ p_sum f m := by
      have : ∀ n : Nat, n ≤ m → 0 ≤ p_sum f n := by
        intro n
        induction n with
        | zero => intro _; exact Int.le_refl _
        | succ n ih =>
          intro hn
          show 0 ≤ p_sum f n + f n
          have := ih (by omega)
          have := hf n (by omega) (by omega)
          omega
      exact this m (Nat.le_refl _)
    have h2 := q_mx0 (f := f) m
    rw [q_af, q_bf, q_cost]
    omega
  | succ k ih =>
    intro l f a va hf hw
    have v := va l (by omega) (by omega)
    have h0 := hf (a l) v.1 v.2
    have w0 := hw l (by omega) (by omega)
    have h1 := ih (l + 1) (q_up f (a l) (max 0 (f (a l) - w l))) a (fun j x y => va j (by omega) (by omega)) (fun c x y => by
      unfold q_up; split
      · omega
      · exact hf c x y) (fun j x y => hw j (by omega) (by omega))
    rw [p_sumU m v.1 v.2] at h1
    have h2 := q_mxU (f := f) (c := a l) (v := max 0 (f (a l) - w l)) (by omega) m
    have h3 := q_mxB (f := f) m v.1 v.2
    have h4 := q_cost0 (w := w) k (l + 1) (q_up f (a l) (max 0 (f (a l) - w l))) a
    rw [q_af, q_bf, q_cost]
    omega
theorem q_ub {m : Int} : ∀ (k : Nat) (l : Int) (f a : Int → Int), q_va m k l a → (∀ c : Int, 0 ≤ c → c < m → 0 ≤ f c) → (∀ j : Int, l ≤ j → j < l + k → 0 ≤ w j) → q_cost w k l f a ≤ q_af w k l := by
  intro k
  induction k with
  | zero => intro l f a _ _ _; exact Int.le_refl _
  | succ k ih =>
    intro l f a va hf hw
    have v := va l (by omega) (by omega)
    have h0 := hf (a l) v.1 v.2
    have w0 := hw l (by omega) (by omega)
    have h1 := ih (l + 1) (q_up f (a l) (max 0 (f (a l) - w l))) a (fun j x y => va j (by omega) (by omega)) (fun c x y => by
      unfold q_up; split
      · omega
      · exact hf c x y) (fun j x y => hw j (by omega) (by omega))
    rw [q_af, q_cost]
    omega
end
/-! whole rows of the picture -/
def q_put (A : k_H) (a : Int) (f : Int → Int) : k_H := (A.1, A.2.1, fun b j => if b = a then f j else A.2.2 b j)
section
variable {A : k_H} {a b i j v : Int} {f g : Int → Int}
theorem q_pe : k_rd (q_put A a f) a j = f j := if_pos rfl
theorem q_pn (h : b ≠ a) : k_rd (q_put A a f) b j = k_rd A b j := if_neg h
theorem q_pw : k_wt (q_put A a f) a i v = q_put A a (q_up f i v) := by
  show (A.1, A.2.1, _) = (A.1, A.2.1, _)
  congr 2
  funext x y
  show (if x = a ∧ y = i then v else if x = a then f y else A.2.2 x y) = if x = a then (if y = i then v else f y) else A.2.2 x y
  by_cases h : x = a
  · rw [if_pos h, if_pos h]
    by_cases h2 : y = i
    · rw [if_pos ⟨h, h2⟩, if_pos h2]
    · rw [if_neg (fun z => h2 z.2), if_neg h2]
  · rw [if_neg (fun z => h z.1), if_neg h, if_neg h]
theorem q_pwn (n : b ≠ a) : k_wt (q_put A a f) b i v = q_put (k_wt A b i v) a f := by
  show (A.1, A.2.1, _) = (A.1, A.2.1, _)
  congr 2
  funext x y
  show (if x = b ∧ y = i then v else if x = a then f y else A.2.2 x y) = if x = a then f y else if x = b ∧ y = i then v else A.2.2 x y
  by_cases h : x = a
  · rw [if_neg (fun z => n (by rw [← z.1, h])), if_pos h, if_pos h]
  · rw [if_neg h, if_neg h]
theorem q_pid : q_put A a (k_rd A a) = A := by
  obtain ⟨x, y, z⟩ := A
  show (x, y, fun b j => if b = a then z a j else z b j) = (x, y, z)
  have : (fun b j => if b = a then z a j else z b j) = z := by
    funext b j
    by_cases h : b = a
    · rw [if_pos h, h]
    · rw [if_neg h]
  rw [this]
theorem p_wtw {u : Int} : k_wt (k_wt A a i u) a i v = k_wt A a i v := by
  show (A.1, A.2.1, _) = (A.1, A.2.1, _)
  congr 2
  funext x y
  show (if x = a ∧ y = i then v else if x = a ∧ y = i then u else A.2.2 x y) = if x = a ∧ y = i then v else A.2.2 x y
  by_cases h : x = a ∧ y = i
  · rw [if_pos h, if_pos h]
  · rw [if_neg h, if_neg h, if_neg h]
end
