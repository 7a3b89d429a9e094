/-! the best tour, as a function -/
abbrev e_E : Type := (Int → Int) × (Int → Int → Int) × (Int → Int → Int) × Int × Nat
def e_pt (E : e_E) (i : Int) : Int := E.1 i
def e_ap (E : e_E) (i j : Int) : Int := E.2.1 i j
def e_cl (E : e_E) (i n : Int) : Int := E.2.2.1 i n
def e_ro (E : e_E) : Int := E.2.2.2.1
def e_mn (E : e_E) : Nat := E.2.2.2.2
abbrev e_s : Type := Nat × Int × Int × Int
def e_u (s : e_s) : Nat := s.1
def e_la (s : e_s) : Int := s.2.1
def e_ln (s : e_s) : Int := s.2.2.1
def e_ru (s : e_s) : Int := s.2.2.2
def e_can (E : e_E) (n : Int) (s : e_s) (i : Nat) : Bool := (!(e_u s).testBit i) && decide (e_ru s + 1 ≤ e_ro E) && (decide (e_la s < 0) || decide (e_ap E (e_la s) i ≤ n - e_ln s)) && decide (e_cl E i n = 0)
def e_nx (n : Int) (s : e_s) (i : Nat) : e_s := (e_u s ||| 2 ^ i, (i : Int), n, e_ru s + 1)
def e_rs (s : e_s) : e_s := (e_u s, e_la s, e_ln s, 0)
def e_sc (can : Nat → Bool) (val : Nat → Int) : Nat → Int × Nat
  | 0 => (-1, 0)
  | o + 1 => if can o = true ∧ (e_sc can val o).1 < val o then (val o, o) else e_sc can val o
def e_V (E : e_E) : Nat → Int → e_s → Int
  | 0, _, _ => 0
  | k + 1, n, s => max (e_sc (e_can E n s) (fun i => e_pt E i + e_V E k (n + 1) (e_nx n s i)) (e_mn E)).1 (e_V E k (n + 1) (e_rs s))
def e_vl (E : e_E) (k : Nat) (n : Int) (s : e_s) (i : Nat) : Int := e_pt E i + e_V E k (n + 1) (e_nx n s i)
def e_o (E : e_E) (k : Nat) (n : Int) (s : e_s) : Nat := if (e_sc (e_can E n s) (e_vl E k n s) (e_mn E)).1 < e_V E k (n + 1) (e_rs s) then e_mn E else (e_sc (e_can E n s) (e_vl E k n s) (e_mn E)).2
def e_st (E : e_E) (n : Int) (s : e_s) (o : Nat) : e_s := if o = e_mn E then e_rs s else e_nx n s o
def e_pa (E : e_E) : Nat → Int → e_s → Int → Nat
  | 0, _, _, _ => e_mn E
  | k + 1, n, s, j => if j = n then e_o E k n s else e_pa E k (n + 1) (e_st E n s (e_o E k n s)) j
theorem e_V1 (E : e_E) (k : Nat) (n : Int) (s : e_s) : e_V E (k + 1) n s = max (e_sc (e_can E n s) (e_vl E k n s) (e_mn E)).1 (e_V E k (n + 1) (e_rs s)) := rfl
section
variable {can : Nat → Bool} {val : Nat → Int}
theorem e_scU : ∀ (o i : Nat), i < o → can i = true → val i ≤ (e_sc can val o).1 := by
  intro o
  induction o with
  | zero => intro i h _; omega
  | succ o ih =>
    intro i h c
    rw [e_sc]
    by_cases q : can o = true ∧ (e_sc can val o).1 < val o
    · rw [if_pos q]
      by_cases z : i = o
      · subst z; exact Int.le_refl _
      · have := ih i (by omega) c
        show val i ≤ val o
        omega
    · rw [if_neg q]
      by_cases z : i = o
      · subst z
        by_cases y : (e_sc can val i).1 < val i
        · exact absurd ⟨c, y⟩ q
        · omega
      · exact ih i (by omega) c
theorem e_scM : ∀ (o : Nat), -1 ≤ (e_sc can val o).1 := by
  intro o
  induction o with
  | zero => exact Int.le_refl _
  | succ o ih =>
    rw [e_sc]
    split
    · next q => show -1 ≤ val o; omega
    · exact ih
theorem e_scX : ∀ (o : Nat), (e_sc can val o = (-1, 0) ∧ ∀ i, i < o → can i = true → val i ≤ -1) ∨ (∃ i, i < o ∧ can i = true ∧ e_sc can val o = (val i, i) ∧ -1 < val i ∧ ∀ j, j < i → can j = true → val j < val i) := by
  intro o
  induction o with
  | zero => exact Or.inl ⟨rfl, fun i h => by omega⟩
  | succ o ih =>
    rw [e_sc]
    have m := e_scM (can := can) (val := val) o
    by_cases q : can o = true ∧ (e_sc can val o).1 < val o
    · rw [if_pos q]
      refine Or.inr ⟨o, by omega, q.1, rfl, by omega, fun j hj c => ?_⟩
      have := e_scU (can := can) (val := val) o j hj c
      omega
    · rw [if_neg q]
      rcases ih with h | ⟨i, h1, h2, h3, h4, h5⟩
      · refine Or.inl ⟨h.1, fun i hi c => ?_⟩
        have := e_scU (can := can) (val := val) (o + 1) i hi c
        rw [e_sc, if_neg q, h.1] at this
        exact this
      · exact Or.inr ⟨i, by omega, h2, h3, h4, h5⟩
theorem e_scE {val2 : Nat → Int} : ∀ (o : Nat), (∀ i, i < o → can i = true → val i = val2 i) → e_sc can val o = e_sc can val2 o := by
  intro o
  induction o with
  | zero => intro _; rfl
  | succ o ih =>
    intro h
    rw [e_sc, e_sc, ih (fun i a b => h i (by omega) b)]
    by_cases c : can o = true
    · rw [h o (by omega) c]
    · rw [if_neg (fun z => c z.1), if_neg (fun z => c z.1)]
end
theorem e_V0 (E : e_E) : ∀ (k : Nat) (n : Int) (s : e_s), 0 ≤ e_V E k n s := by
  intro k
  induction k with
  | zero => intro n s; exact Int.le_refl _
  | succ k ih => intro n s; rw [e_V1]; have := ih (n + 1) (e_rs s); omega
/-- points of the halls not yet used -/
def e_ur (E : e_E) (u : Nat) (i : Int) : Int := if u.testBit i.toNat = true then 0 else e_pt E i
theorem e_tb {u i j : Nat} : (u ||| 2 ^ i).testBit j = (u.testBit j || decide (i = j)) := by
  rw [Nat.testBit_or, Nat.testBit_two_pow]
theorem e_urS {E : e_E} {u i : Nat} (h : u.testBit i = false) : ∀ m : Nat, i < m → p_sum (e_ur E (u ||| 2 ^ i)) m + e_pt E i = p_sum (e_ur E u) m := by
  intro m hm
  have e : p_sum (e_ur E (u ||| 2 ^ i)) m = p_sum (q_up (e_ur E u) i 0) m := by
    refine p_sumE m (fun j x y => ?_)
    unfold e_ur
    rw [e_tb]
    by_cases z : j = i
    · subst z
      rw [q_upe, if_pos (by rw [Int.toNat_natCast]; simp)]
    · rw [q_upn z]
      have : decide (i = j.toNat) = false := by rw [decide_eq_false_iff_not]; omega
      rw [this, Bool.or_false]
  have e2 : e_ur E u i = e_pt E i := by unfold e_ur; rw [Int.toNat_natCast, h, if_neg (by simp)]
  rw [e, p_sumU m (by omega) (by omega), e2]
  omega
theorem e_canU {E : e_E} {n : Int} {s : e_s} {i : Nat} (h : e_can E n s i = true) : (e_u s).testBit i = false ∧ e_ru s + 1 ≤ e_ro E ∧ (e_la s < 0 ∨ e_ap E (e_la s) i ≤ n - e_ln s) ∧ e_cl E i n = 0 := by
  unfold e_can at h
  simp only [Bool.and_eq_true, Bool.or_eq_true, decide_eq_true_eq, Bool.not_eq_true'] at h
  exact ⟨h.1.1.1, h.1.1.2, h.1.2, h.2⟩
theorem e_canI {E : e_E} {n : Int} {s : e_s} {i : Nat} (h1 : (e_u s).testBit i = false) (h2 : e_ru s + 1 ≤ e_ro E) (h3 : e_la s < 0 ∨ e_ap E (e_la s) i ≤ n - e_ln s) (h4 : e_cl E i n = 0) : e_can E n s i = true := by
  unfold e_can
  simp only [Bool.and_eq_true, Bool.or_eq_true, decide_eq_true_eq, Bool.not_eq_true']
  exact ⟨⟨⟨h1, h2⟩, h3⟩, h4⟩
theorem e_Vr {E : e_E} (hp : ∀ i : Int, 0 ≤ i → i < e_mn E → 0 ≤ e_pt E i) : ∀ (k : Nat) (n : Int) (s : e_s), e_V E k n s ≤ p_sum (e_ur E (e_u s)) (e_mn E) := by
  have nn : ∀ (u m : Nat), m ≤ e_mn E → 0 ≤ p_sum (e_ur E u) m := by
    intro u m
    induction m with
    | zero => intro _; exact Int.le_refl _
    | succ m ih =>
      intro hm
      show 0 ≤ p_sum (e_ur E u) m + e_ur E u m
      have h1 := ih (by omega)
      have h2 : 0 ≤ e_ur E u m := by
        unfold e_ur; split
        · omega
        · exact hp m (by omega) (by omega)
      omega
  intro k
  induction k with
  | zero => intro n s; exact nn _ _ (Nat.le_refl _)
  | succ k ih =>
    intro n s
    rw [e_V1]
    have h1 := ih (n + 1) (e_rs s)
    have h2 : e_u (e_rs s) = e_u s := rfl
    rw [h2] at h1
    rcases e_scX (can := e_can E n s) (val := e_vl E k n s) (e_mn E) with ⟨q, _⟩ | ⟨i, a, b, c, _, _⟩
    · rw [q]
      have := e_V0 E k (n + 1) (e_rs s)
      show max (-1) (e_V E k (n + 1) (e_rs s)) ≤ _
      omega
    · rw [c]
      have h3 := ih (n + 1) (e_nx n s i)
      have h4 : e_u (e_nx n s i) = e_u s ||| 2 ^ i := rfl
      rw [h4] at h3
      have h5 := e_urS (E := E) (e_canU b).1 (e_mn E) a
      unfold e_vl
      omega
