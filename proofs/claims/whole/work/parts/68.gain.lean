/-! the best tour, by what can still come -/
def e_g (E : e_E) (to n : Int) (u i : Nat) (ru : Int) : Int := if ru ≤ e_ro E ∧ e_cl E i n = 0 then e_pt E i + e_V E (to - n).toNat (n + 1) ((u, (i : Int), n, ru) : e_s) else 0
def e_lg (E : e_E) (to : Int) : Nat → Int → Nat → Nat → Int
  | 0, _, _, _ => 0
  | k + 1, n, u, i => max (e_lg E to k (n + 1) u i) (e_g E to n u i 1)
def e_L (E : e_E) (to n : Int) (u i : Nat) : Int := e_lg E to (to - n + 1).toNat n u i
def e_Tr (E : e_E) (to : Int) (u : Nat) (fi : Int → Int) (j : Int) : Int := if u.testBit j.toNat = false ∧ fi j ≤ to then e_L E to (fi j) (u ||| 2 ^ j.toNat) j.toNat else 0
def e_Tn (E : e_E) (to n : Int) (u i : Nat) (ru : Int) (j : Int) : Int := if u.testBit j.toNat = false ∧ e_ap E i j ≤ 1 then e_g E to (n + 1) (u ||| 2 ^ j.toNat) j.toNat (ru + 1) else 0
theorem q_mxM {f g h : Int → Int} : ∀ m : Nat, (∀ j : Int, 0 ≤ j → j < m → f j = max (g j) (h j)) → q_mx f m = max (q_mx g m) (q_mx h m) := by
  intro m
  induction m with
  | zero => intro _; rfl
  | succ m ih =>
    intro q
    show max (q_mx f m) (f m) = max (max (q_mx g m) (g m)) (max (q_mx h m) (h m))
    rw [ih (fun j x y => q j x (by omega)), q m (by omega) (by omega)]
    omega
theorem q_mxE {f g : Int → Int} : ∀ m : Nat, (∀ j : Int, 0 ≤ j → j < m → f j = g j) → q_mx f m = q_mx g m := by
  intro m
  induction m with
  | zero => intro _; rfl
  | succ m ih =>
    intro q
    show max (q_mx f m) (f m) = max (q_mx g m) (g m)
    rw [ih (fun j x y => q j x (by omega)), q m (by omega) (by omega)]
theorem q_mxZ {f : Int → Int} : ∀ m : Nat, (∀ j : Int, 0 ≤ j → j < m → f j = 0) → q_mx f m = 0 := by
  intro m
  induction m with
  | zero => intro _; rfl
  | succ m ih =>
    intro q
    show max (q_mx f m) (f m) = 0
    rw [ih (fun j x y => q j x (by omega)), q m (by omega) (by omega)]
    rfl
theorem e_scq {can : Nat → Bool} {val : Nat → Int} : ∀ o : Nat, (∀ j, j < o → can j = true → 0 ≤ val j) → max 0 (e_sc can val o).1 = q_mx (fun j => if can j.toNat = true then val j.toNat else 0) o := by
  intro o
  induction o with
  | zero => intro _; rfl
  | succ o ih =>
    intro q
    show _ = max (q_mx (fun j => if can j.toNat = true then val j.toNat else 0) o) (if can (o : Int).toNat = true then val (o : Int).toNat else 0)
    rw [← ih (fun j x => q j (by omega)), e_sc, Int.toNat_natCast]
    by_cases c : can o = true
    · have := q o (by omega) c
      rw [if_pos c]
      by_cases l : (e_sc can val o).1 < val o
      · rw [if_pos ⟨c, l⟩]
        show max 0 (val o) = _
        omega
      · rw [if_neg (fun z => l z.2)]; omega
    · rw [if_neg c, if_neg (fun z => c z.1)]; omega
section
variable {E : e_E} {to : Int}
theorem e_g0 (hp : ∀ i : Int, 0 ≤ i → i < e_mn E → 0 ≤ e_pt E i) {n : Int} {u i : Nat} (hi : i < e_mn E) {ru : Int} : 0 ≤ e_g E to n u i ru := by
  unfold e_g
  split
  · have := hp i (by omega) (by omega)
    have := e_V0 E (to - n).toNat (n + 1) ((u, (i : Int), n, ru) : e_s)
    omega
  · omega
theorem e_lg0 (hp : ∀ i : Int, 0 ≤ i → i < e_mn E → 0 ≤ e_pt E i) {u i : Nat} : ∀ (k : Nat) (n : Int), 0 ≤ e_lg E to k n u i := by
  intro k
  induction k with
  | zero => intro n; exact Int.le_refl _
  | succ k ih => intro n; rw [e_lg]; have := ih (n + 1); omega
theorem e_A (hp : ∀ i : Int, 0 ≤ i → i < e_mn E → 0 ≤ e_pt E i) {u : Nat} {la ln : Int} {a : Int → Int} (ha : ∀ j : Nat, j < e_mn E → ∀ n : Int, 0 ≤ n → ((la < 0 ∨ e_ap E la j ≤ n - ln) ↔ a j ≤ n)) : ∀ (k : Nat) (n : Int), 0 ≤ n → n + k = to + 1 → e_V E k n ((u, la, ln, 0) : e_s) = q_mx (e_Tr E to u (fun j => max n (a j))) (e_mn E) := by
  intro k
  induction k with
  | zero =>
    intro n n0 nk
    rw [e_V, q_mxZ (e_mn E) (fun j x y => by simp only [e_Tr]; rw [if_neg (by omega)])]
  | succ k ih =>
    intro n n0 nk
    have ek : (to - n).toNat = k := by omega
    have vp : ∀ j, j < e_mn E → e_can E n ((u, la, ln, 0) : e_s) j = true → 0 ≤ e_vl E k n ((u, la, ln, 0) : e_s) j := by
      intro j hj _
      unfold e_vl
      have := hp j (by omega) (by omega)
      have := e_V0 E k (n + 1) (e_nx n ((u, la, ln, 0) : e_s) j)
      omega
    have sq := e_scq (e_mn E) vp
    have e1 : e_rs ((u, la, ln, 0) : e_s) = ((u, la, ln, 0) : e_s) := rfl
    rw [e_V1, e1, ih (n + 1) (by omega) (by omega)]
    have mm := q_mx0 (f := e_Tr E to u (fun j => max (n + 1) (a j))) (e_mn E)
    have key : q_mx (e_Tr E to u (fun j => max n (a j))) (e_mn E) = max (q_mx (fun j => if e_can E n ((u, la, ln, 0) : e_s) j.toNat = true then e_vl E k n ((u, la, ln, 0) : e_s) j.toNat else 0) (e_mn E)) (q_mx (e_Tr E to u (fun j => max (n + 1) (a j))) (e_mn E)) := by
      refine q_mxM (e_mn E) (fun j j0 j1 => ?_)
      obtain ⟨i, rfl⟩ : ∃ i : Nat, j = i := ⟨j.toNat, by omega⟩
      have lz := fun k n u i => e_lg0 (E := E) (to := to) hp (u := u) (i := i) k n
      show e_Tr E to u (fun j => max n (a j)) i = max (if e_can E n ((u, la, ln, 0) : e_s) (i : Int).toNat = true then e_vl E k n ((u, la, ln, 0) : e_s) (i : Int).toNat else 0) (e_Tr E to u (fun j => max (n + 1) (a j)) i)
      simp only [e_Tr, Int.toNat_natCast]
      by_cases b : u.testBit i = false
      · by_cases c : a i ≤ n
        · have m1 : max n (a i) = n := by omega
          have m2 : max (n + 1) (a i) = n + 1 := by omega
          rw [if_pos ⟨b, by omega⟩, m1, m2]
          have l1 : e_L E to n (u ||| 2 ^ i) i = max (e_lg E to k (n + 1) (u ||| 2 ^ i) i) (e_g E to n (u ||| 2 ^ i) i 1) := by
            unfold e_L
            have : (to - n + 1).toNat = k + 1 := by omega
            rw [this, e_lg]
          have l2 : (if u.testBit i = false ∧ n + 1 ≤ to then e_L E to (n + 1) (u ||| 2 ^ i) i else 0) = e_lg E to k (n + 1) (u ||| 2 ^ i) i := by
            by_cases z : n + 1 ≤ to
            · rw [if_pos ⟨b, z⟩]
              unfold e_L
              have : (to - (n + 1) + 1).toNat = k := by omega
              rw [this]
            · rw [if_neg (fun q => z q.2)]
              have : k = 0 := by omega
              subst this; rfl
          have l3 : (if e_can E n ((u, la, ln, 0) : e_s) i = true then e_vl E k n ((u, la, ln, 0) : e_s) i else 0) = e_g E to n (u ||| 2 ^ i) i 1 := by
            unfold e_g
            by_cases z : (1 : Int) ≤ e_ro E ∧ e_cl E i n = 0
            · rw [if_pos (e_canI (s := ((u, la, ln, 0) : e_s)) b (by show (0 : Int) + 1 ≤ e_ro E; omega) ((ha i (by omega) n n0).2 c) z.2), if_pos z, ek]; rfl
            · rw [if_neg z, if_neg]
              intro q
              have q2 := e_canU q
              have q3 : (0 : Int) + 1 ≤ e_ro E := q2.2.1
              exact z ⟨by omega, q2.2.2.2⟩
          rw [l1, l2, l3]
          omega
        · have m1 : max n (a i) = a i := by omega
          have m2 : max (n + 1) (a i) = a i := by omega
          rw [m1, m2]
          have nc : ¬ e_can E n ((u, la, ln, 0) : e_s) i = true := fun q => c ((ha i (by omega) n n0).1 (e_canU q).2.2.1)
          rw [if_neg nc]
          split
          · have := lz (to - a i + 1).toNat (a i) (u ||| 2 ^ i) i
            unfold e_L; omega
          · rfl
      · rw [if_neg (fun q => b q.1), if_neg (fun q => b (e_canU (s := ((u, la, ln, 0) : e_s)) q).1), if_neg (fun q => b q.1)]; rfl
    rw [key, ← sq]
    show max (e_sc (e_can E n ((u, la, ln, 0) : e_s)) (e_vl E k n ((u, la, ln, 0) : e_s)) (e_mn E)).1 _ = _
    omega
theorem e_B (hp : ∀ i : Int, 0 ≤ i → i < e_mn E → 0 ≤ e_pt E i) {u i : Nat} {n ru : Int} (n0 : 0 ≤ n) (nt : n ≤ to) : e_V E (to - n).toNat (n + 1) ((u, (i : Int), n, ru) : e_s) = max (q_mx (e_Tr E to u (fun j => n + max 2 (e_ap E i j))) (e_mn E)) (if n < to then q_mx (e_Tn E to n u i ru) (e_mn E) else 0) := by
  by_cases z : n < to
  · rw [if_pos z]
    obtain ⟨k, ek⟩ : ∃ k : Nat, (to - n).toNat = k + 1 := ⟨(to - n).toNat - 1, by omega⟩
    have ek2 : (to - (n + 1)).toNat = k := by omega
    have e1 : e_rs ((u, (i : Int), n, ru) : e_s) = ((u, (i : Int), n, 0) : e_s) := rfl
    rw [ek, e_V1, e1, e_A (to := to) hp (a := fun j => n + e_ap E i j) (fun j _ m _ => by
      constructor
      · intro q
        show n + e_ap E i j ≤ m
        omega
      · intro q
        have : n + e_ap E i j ≤ m := q
        exact Or.inr (by omega)) k (n + 1 + 1) (by omega) (by omega)]
    have f1 : q_mx (e_Tr E to u (fun j => max (n + 1 + 1) (n + e_ap E i j))) (e_mn E) = q_mx (e_Tr E to u (fun j => n + max 2 (e_ap E i j))) (e_mn E) := by
      refine q_mxE _ (fun j _ _ => ?_)
      have : max (n + 1 + 1) (n + e_ap E i j) = n + max 2 (e_ap E i j) := by omega
      simp only [e_Tr, this]
    have sq := e_scq (can := e_can E (n + 1) ((u, (i : Int), n, ru) : e_s)) (val := e_vl E k (n + 1) ((u, (i : Int), n, ru) : e_s)) (e_mn E) (fun j hj _ => by
      unfold e_vl
      have := hp j (by omega) (by omega)
      have := e_V0 E k (n + 1 + 1) (e_nx (n + 1) ((u, (i : Int), n, ru) : e_s) j)
      omega)
    have f2 : q_mx (fun j => if e_can E (n + 1) ((u, (i : Int), n, ru) : e_s) j.toNat = true then e_vl E k (n + 1) ((u, (i : Int), n, ru) : e_s) j.toNat else 0) (e_mn E) = q_mx (e_Tn E to n u i ru) (e_mn E) := by
      refine q_mxE _ (fun j j0 j1 => ?_)
      obtain ⟨m, rfl⟩ : ∃ m : Nat, j = m := ⟨j.toNat, by omega⟩
      show (if e_can E (n + 1) ((u, (i : Int), n, ru) : e_s) (m : Int).toNat = true then e_vl E k (n + 1) ((u, (i : Int), n, ru) : e_s) (m : Int).toNat else 0) = e_Tn E to n u i ru m
      unfold e_Tn e_g
      rw [Int.toNat_natCast]
      by_cases b : u.testBit m = false ∧ e_ap E i m ≤ 1
      · rw [if_pos b]
        by_cases y : ru + 1 ≤ e_ro E ∧ e_cl E m (n + 1) = 0
        · rw [if_pos y, if_pos (e_canI (s := ((u, (i : Int), n, ru) : e_s)) b.1 y.1 (Or.inr (by show e_ap E i m ≤ n + 1 - n; omega)) y.2), ek2]; rfl
        · rw [if_neg y, if_neg]
          intro q
          have q2 := e_canU q
          exact y ⟨q2.2.1, q2.2.2.2⟩
      · rw [if_neg b, if_neg]
        intro q
        have q2 := e_canU q
        refine b ⟨q2.1, ?_⟩
        rcases q2.2.2.1 with h | h
        · have : (i : Int) < 0 := h
          omega
        · have : e_ap E i m ≤ n + 1 - n := h
          omega
    rw [f1]
    have g1 := q_mx0 (f := e_Tr E to u (fun j => n + max 2 (e_ap E i j))) (e_mn E)
    rw [← f2, ← sq]
    omega
  · have : (to - n).toNat = 0 := by omega
    rw [if_neg z, this, e_V, q_mxZ (e_mn E) (fun j x y => by simp only [e_Tr]; rw [if_neg (by omega)])]
    rfl
end
