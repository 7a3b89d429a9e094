/-! small rows for the methods' texts -/
def k_FU : Nat := 1073741824
def k_bd (o : Option (Int × k_H)) (g : Int → k_H → Option (Int × k_H)) : Option (Int × k_H) := match o with
  | none => none
  | some q => g q.1 q.2
def k_lt (x : k_H) (g : k_H → Option (Int × k_H)) : Option (Int × k_H) := g x
theorem k_pk {c : Prop} [Decidable c] {x : Option (Int × k_H)} {y : Int × k_H} (h : (if c then x else none) = some y) : c ∧ x = some y := by
  by_cases hc : c
  · rw [if_pos hc] at h; exact ⟨hc, h⟩
  · rw [if_neg hc] at h; cases h
theorem k_pb {o : Option (Int × k_H)} {g : Int → k_H → Option (Int × k_H)} {y : Int × k_H} (h : k_bd o g = some y) : ∃ (r : Int) (A : k_H), o = some (r, A) ∧ g r A = some y := by
  cases o with
  | none => cases h
  | some q => exact ⟨q.1, q.2, rfl, h⟩
theorem k_pl {x : k_H} {g : k_H → Option (Int × k_H)} {y : Int × k_H} (h : k_lt x g = some y) : ∃ B : k_H, B = x ∧ g B = some y := ⟨x, rfl, h⟩
theorem k_pr {x r : Int} {A A' : k_H} (h : some (x, A) = some (r, A')) : r = x ∧ A' = A := by
  cases h; exact ⟨rfl, rfl⟩
theorem k_hq {d : Nat} {M : k_M} {pc : Nat} {ls st : List k_V} {A B : k_H} {r : Int} {A' : k_H} (e : B = A) (k : k_AW d M pc ls st B r A') : k_AW d M pc ls st A r A' := e ▸ k
theorem k_oW {A B : k_H} {a i v : Int} (e : B = k_wt A a i v) {b : Int} {ci : Nat} (h : k_isO A b ci) : k_isO B b ci := by subst e; exact h
theorem k_aW {A B : k_H} {a i v : Int} (e : B = k_wt A a i v) {b j : Int} {K : Nat} (h : k_isA A b K j) : k_isA B b K j := by subst e; exact h
theorem k_rW {A B : k_H} {a i v : Int} (e : B = k_wt A a i v) {b : Int} {K : Nat} (h : k_isR A b K) : k_isR B b K := by subst e; exact h
theorem k_oX {A B : k_H} {a i a2 i2 n : Int} (e : B = k_cp A a i a2 i2 n) {b : Int} {ci : Nat} (h : k_isO A b ci) : k_isO B b ci := by subst e; exact h
theorem k_aX {A B : k_H} {a i a2 i2 n : Int} (e : B = k_cp A a i a2 i2 n) {b j : Int} {K : Nat} (h : k_isA A b K j) : k_isA B b K j := by subst e; exact h
theorem k_rX {A B : k_H} {a i a2 i2 n : Int} (e : B = k_cp A a i a2 i2 n) {b : Int} {K : Nat} (h : k_isR A b K) : k_isR B b K := by subst e; exact h
theorem k_nz {x : Int} (h : x = 0 ∨ x = 1) : narrow .boolean (.int (Int32.ofInt x)) = .int (Int32.ofInt x) := by
  rcases h with rfl | rfl <;> decide +kernel
theorem k_nb {x : Int} (h : x = 0 ∨ x = 1) : narrow .byte (.int (Int32.ofInt x)) = .int (Int32.ofInt x) := by
  rcases h with rfl | rfl <;> decide +kernel
def k_t3 (l : List k_V) : Bool := l.all fun v => decide (v.1 < 3)
theorem k_AM_of2 {d : Nat} {M : k_M} {as ls : List k_V} {A : k_H} {r : Int} {A1 : k_H} (hnt : k_nothr M = true ∨ r ≠ k_EXC) (hh0 : k_hh M = none) (hp : plainName M.1.cls = true) (ht : k_t3 as = true) (hl : (k_en as).length ≤ M.2.2.1) (hs : k_sbl ls (k_en as)) (h : k_AW d M 0 ls [] A r A1) : k_AM d M as A r A1 := by
  have hh := k_sbl_ok ls (k_en as) hs
  refine k_AM_of hnt hh0 hp (fun v hv => ?_) hl hh (fun g v hv => ?_) h
  · have := List.all_eq_true.mp ht v hv
    simpa using this
  · by_cases h3 : v.1 < 3
    · obtain ⟨i, hi⟩ := List.getElem?_of_mem hv
      have h1 := hh i v hi h3
      have h2 : ∀ as : List k_V, ∀ w ∈ k_en as, w.1 < 3 → w ∈ as := by
        intro as
        induction as with
        | nil => intro w hw; cases hw
        | cons a l ih =>
          intro w hw h3
          have e : k_en (a :: l) = if a.1 = 2 then a :: (3, 0) :: k_en l else a :: k_en l := rfl
          rw [e] at hw
          split at hw
          · rcases List.mem_cons.mp hw with rfl | hw
            · exact List.mem_cons_self
            · rcases List.mem_cons.mp hw with rfl | hw
              · exact absurd h3 (by decide)
              · exact List.mem_cons_of_mem _ (ih w hw h3)
          · rcases List.mem_cons.mp hw with rfl | hw
            · exact List.mem_cons_self
            · exact List.mem_cons_of_mem _ (ih w hw h3)
      exact g v (h2 as v (List.mem_of_getElem? h1) h3)
    · obtain ⟨t, x⟩ := v
      match t, h3 with
      | t + 3, _ => exact trivial
      | 0, h3 => exact absurd (by show 0 < 3; decide) h3
      | 1, h3 => exact absurd (by show 1 < 3; decide) h3
      | 2, h3 => exact absurd (by show 2 < 3; decide) h3
