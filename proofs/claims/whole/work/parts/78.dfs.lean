/-! the reference's search, a node -/
def e_rc (u o : Nat) : Nat := ((List.range 6).filter (fun i => decide (o ≤ i) && !u.testBit i)).length
theorem e_rcS {u o : Nat} (hu : u < 64) (ho : o < 6) : e_rc u o = (if u.testBit o = true then 0 else 1) + e_rc u (o + 1) := by
  have : ∀ u : Fin 64, ∀ o : Fin 6, e_rc u.val o.val = (if u.val.testBit o.val = true then 0 else 1) + e_rc u.val (o.val + 1) := by decide +kernel
  exact this ⟨u, hu⟩ ⟨o, ho⟩
theorem e_rc0 {u : Nat} (hu : u < 64) : e_rc u 0 = (6 - e_pc u).toNat := by
  have : ∀ u : Fin 64, e_rc u.val 0 = (6 - e_pc u.val).toNat := by decide +kernel
  exact this ⟨u, hu⟩
section
variable {E : e_E} {s fr to : Int} {al : Int → Int}
theorem m_ex {k : Nat} (ch : e_Ch E s fr to al k) : e_X E s fr to al k := by
  intro n A0 M0 la ln ru wo u nf nk c hal nd h3 ho gi m0 m1
  have cc := c
  have wb := e_woB c u
  have wb0 := e_woB c 0
  have Vm := fun k n s' => e_Vm c k n s'
  have hp1 := e_hpm c
  obtain ⟨cs, ⟨c33, c34, cf0, cft, ct⟩, cmi, ⟨c36, cr1, cr2⟩, cm6, cpt, cap, cbx, cby, cS, ccl⟩ := c
  have ndd := nd
  obtain ⟨d1, d2, d3, d4, d5, d6, d7, d8, d9, d10⟩ := nd
  have u64 := e_pow cm6
  have pcb := e_pcB u
  -- hall options
  have lp : ∀ (d o : Nat) (A : k_H) (M : Int), o + d = e_mn E → k_rd A 142 n = (o : Int) - 1 → e_fm n A0 A → e_GI A E to n M → M0 ≤ M → M ≤ 1000 → (∀ i, i < o → e_can E n ((u, la, ln, ru) : e_s) i = true → wo + e_vl E k n ((u, la, ln, ru) : e_s) i ≤ M) → ((M = M0 ∧ ∀ j : Int, k_rd A 148 j = k_rd A0 148 j) ∨ (M0 < M ∧ ∃ i, i < o ∧ e_can E n ((u, la, ln, ru) : e_s) i = true ∧ M = wo + e_vl E k n ((u, la, ln, ru) : e_s) i ∧ (∀ i', i' < i → e_can E n ((u, la, ln, ru) : e_s) i' = true → e_vl E k n ((u, la, ln, ru) : e_s) i' < e_vl E k n ((u, la, ln, ru) : e_s) i) ∧ ∀ j : Int, fr ≤ j → j ≤ to → k_rd A 148 j = al (if j < n then k_rd A0 142 j else if j = n then (i : Int) else ((e_pa E k (n + 1) (e_nx n ((u, la, ln, ru) : e_s) i) j : Nat) : Int)))) → ∃ J A' M', J ≤ d + e_rc u o * (if k = 0 then 0 else e_W (k - 1) ((6 - e_pc u).toNat - 1)) ∧ (∀ N, gX9_book_h165 (N + J) A s (e_mn E) M n = gX9_book_h165 N A' s (e_mn E) M' n) ∧ k_rd A' 142 n = (e_mn E : Int) - 1 ∧ e_fm n A0 A' ∧ e_GI A' E to n M' ∧ M0 ≤ M' ∧ M' ≤ 1000 ∧ (∀ i, i < e_mn E → e_can E n ((u, la, ln, ru) : e_s) i = true → wo + e_vl E k n ((u, la, ln, ru) : e_s) i ≤ M') ∧ ((M' = M0 ∧ ∀ j : Int, k_rd A' 148 j = k_rd A0 148 j) ∨ (M0 < M' ∧ ∃ i, i < e_mn E ∧ e_can E n ((u, la, ln, ru) : e_s) i = true ∧ M' = wo + e_vl E k n ((u, la, ln, ru) : e_s) i ∧ (∀ i', i' < i → e_can E n ((u, la, ln, ru) : e_s) i' = true → e_vl E k n ((u, la, ln, ru) : e_s) i' < e_vl E k n ((u, la, ln, ru) : e_s) i) ∧ ∀ j : Int, fr ≤ j → j ≤ to → k_rd A' 148 j = al (if j < n then k_rd A0 142 j else if j = n then (i : Int) else ((e_pa E k (n + 1) (e_nx n ((u, la, ln, ru) : e_s) i) j : Nat) : Int)))) := by
    intro d
    induction d with
    | zero =>
      intro o A M od e3 f g q1 q2 q3 q4
      have : o = e_mn E := by omega
      subst this
      exact ⟨0, A, M, Nat.zero_le _, fun N => rfl, e3, f, g, q1, q2, q3, q4⟩
    | succ d ihd =>
      intro o A M od e3 f g q1 q2 q3 q4
      have olt : o < e_mn E := by omega
      have cA : e_cm (k_wt A 142 n o) E s fr to := e_cmF cc (fun a i q => by rw [p_rwn (by omega), f.1 a i (by omega)])
      have ndA : e_nd (k_wt A 142 n o) E n u la ln ru wo := ⟨by rw [p_rwn (by omega), f.2.1 _ _ (by omega) (by omega) (by omega)]; exact d1, by rw [p_rwn (by omega), f.2.1 _ _ (by omega) (by omega) (by omega)]; exact d2, by rw [p_rwn (by omega), f.2.1 _ _ (by omega) (by omega) (by omega)]; exact d3, by rw [p_rwn (by omega), f.2.1 _ _ (by omega) (by omega) (by omega)]; exact d4, by rw [p_rwn (by omega), f.2.1 _ _ (by omega) (by omega) (by omega)]; exact d5, d6, d7, d8, d9, d10⟩
      have fA : e_fm n A0 (k_wt A 142 n o) := e_fmT f ⟨fun a i q => p_rwn (by omega), fun a i x y z => p_rwn (by omega), fun i x => p_rwn (by omega), fun m u' la' ln' ru' v q => e_mbE (fun i => p_rwn (by omega)) _⟩
      have bA : ∀ x, m_bit (k_wt A 142 n o) x = m_bit A x := e_mbE (fun i => p_rwn (by omega))
      have hd := fun N => m_head N A s (e_mn E) M n cs (by rw [f.1 _ _ (by omega)]; omega) (by omega) (o := o) e3 (by omega)
      have go := m_go cA (o := o) (by omega) ndA p_rwe (by omega)
      have rcs := e_rcS (u := u) (o := o) (by omega) (by omega)
      by_cases can : e_can E n ((u, la, ln, ru) : e_s) o = true
      · have cu := e_canU can
        have cu1 : u.testBit o = false := cu.1
        have cu2 : ru + 1 ≤ e_ro E := cu.2.1
        have urS := e_urS (E := E) cu1 (e_mn E) olt
        have pcs := e_pcS (u := u) (i := o) (by omega) (by omega) cu1
        have po := cpt o olt
        have sd := e_sd4 (A := k_wt A 142 n o) (n := n + 1) (a := ((u ||| 2 ^ o : Nat) : Int)) (b := (o : Int)) (c := n) (d := ru + 1) (e := wo + e_pt E o)
        have sdn := fun a i (q : a < 143 ∨ 147 < a ∨ i ≠ n + 1) => e_sdn (A := k_wt A 142 n o) (n := n + 1) (a := ((u ||| 2 ^ o : Nat) : Int)) (b := (o : Int)) (c := n) (d := ru + 1) (e := wo + e_pt E o) (x := a) (i := i) q
        generalize hA9 : e_sd (k_wt A 142 n o) (n + 1) ((u ||| 2 ^ o : Nat) : Int) o n (ru + 1) (wo + e_pt E o) = A9 at sd sdn go
        have b9 : ∀ x, m_bit A9 x = m_bit A x := fun x => (e_mbE (fun i => sdn 149 i (by omega)) x).trans (bA x)
        have f9 : e_fm n A0 A9 := e_fmT fA ⟨fun a i q => sdn a i (by omega), fun a i x y z => sdn a i (by omega), fun i x => sdn 142 i (by omega), fun m u' la' ln' ru' v q => e_mbE (fun i => sdn 149 i (by omega)) _⟩
        obtain ⟨J1, A', M1, j1, j2, j3, j4, j5, j6, j7⟩ := ch n A9 M o n (ru + 1) (wo + e_pt E o) (u ||| 2 ^ o) nf nk (e_cmF cA (fun a i q => sdn a i (by omega))) (fun x => by rw [e_alE (A := A0) (fun i => f9.1 141 i (by omega)), hal]) ⟨sd.1, sd.2.1, sd.2.2.1, sd.2.2.2.1, sd.2.2.2.2, e_orM d6 olt, Or.inr ⟨by omega, by omega, by rw [Int.toNat_natCast, e_tb]; simp, by omega, by omega⟩, by omega, cu2, by omega⟩ (fun j x y => by
          by_cases z : j = n
          · rw [z, sdn _ _ (by omega), p_rwe]; omega
          · rw [f9.2.2.1 j (by omega)]; exact ho j x (by omega)) (fun m u' la' ln' ru' a b v q => g m u' la' ln' ru' a b v (by rw [← b9]; exact q)) (by omega) q2
        have vle : wo + e_pt E o + e_V E k (n + 1) ((u ||| 2 ^ o, (o : Int), n, ru + 1) : e_s) = wo + e_vl E k n ((u, la, ln, ru) : e_s) o := by
          have : e_vl E k n ((u, la, ln, ru) : e_s) o = e_pt E o + e_V E k (n + 1) ((u ||| 2 ^ o, (o : Int), n, ru + 1) : e_s) := rfl
          omega
        rw [vle] at j6
        have vb := Vm k (n + 1) ((u ||| 2 ^ o, (o : Int), n, ru + 1) : e_s)
        obtain ⟨J2, A'', M2, k1, k2, k3, k4⟩ := ihd (o + 1) A' M1 (by omega) (by rw [j4, sdn _ _ (by omega), p_rwe]; omega) (e_fmT f9 j3) j5 (by omega) (by omega) (fun i hi ci => by
            by_cases z : i = o
            · subst z; omega
            · have := q3 i (by omega) ci; omega) (by
          rcases j7 with ⟨p1, p2⟩ | ⟨p1, p2⟩
          · have e149 : ∀ j : Int, k_rd A' 148 j = k_rd A 148 j := fun j => by rw [p2 j, sdn _ _ (by omega), p_rwn (by omega)]
            rcases q4 with ⟨r1, r2⟩ | ⟨r1, i, r2, r3, r4, r5, r6⟩
            · exact Or.inl ⟨by omega, fun j => by rw [e149, r2]⟩
            · exact Or.inr ⟨by omega, i, by omega, r3, by omega, r5, fun j x y => by rw [e149, r6 j x y]⟩
          · refine Or.inr ⟨by omega, o, by omega, can, by omega, fun i' hi' ci' => by have := q3 i' hi' ci'; omega, fun j x y => ?_⟩
            rw [p2 j x y]
            by_cases z : j < n
            · rw [if_pos (by omega), if_pos z, f9.2.2.1 j z]
            · rw [if_neg z]
              by_cases z2 : j = n
              · rw [if_pos (by omega), if_pos z2, z2, sdn _ _ (by omega), p_rwe]
              · rw [if_neg (by omega), if_neg z2]; rfl)
        refine ⟨J2 + J1 + 1, A'', M2, ?_, fun N => ?_, k3, k4⟩
        · have rc1 : e_rc u o = 1 + e_rc u (o + 1) := by rw [rcs, cu1]; simp
          have c1 : (6 - e_pc (u ||| 2 ^ o)).toNat = (6 - e_pc u).toNat - 1 := by omega
          rw [c1] at j1
          rw [rc1, Nat.add_mul, Nat.one_mul]
          omega
        · have e1 : N + (J2 + J1 + 1) = ((N + J2) + J1) + 1 := by omega
          rw [e1, hd, if_neg (by omega), go.2.1 olt can, k_bds, if_neg (by omega), j2, k2]
      · obtain ⟨J2, A'', M2, k1, k2, k3, k4⟩ := ihd (o + 1) (k_wt A 142 n o) M (by omega) (by rw [p_rwe]; omega) fA (fun m u' la' ln' ru' a b v q => g m u' la' ln' ru' a b v (by rw [← bA]; exact q)) q1 q2 (fun i hi ci => by
            by_cases z : i = o
            · subst z; exact absurd ci can
            · exact q3 i (by omega) ci) (by
          rcases q4 with ⟨r1, r2⟩ | ⟨r1, i, r2, r3, r4, r5, r6⟩
          · exact Or.inl ⟨r1, fun j => by rw [p_rwn (by omega), r2]⟩
          · exact Or.inr ⟨r1, i, by omega, r3, r4, r5, fun j x y => by rw [p_rwn (by omega), r6 j x y]⟩)
        refine ⟨J2 + 1, A'', M2, ?_, fun N => ?_, k3, k4⟩
        · have : e_rc u (o + 1) * (if k = 0 then 0 else e_W (k - 1) ((6 - e_pc u).toNat - 1)) ≤ e_rc u o * (if k = 0 then 0 else e_W (k - 1) ((6 - e_pc u).toNat - 1)) := Nat.mul_le_mul_right _ (by rw [rcs]; omega)
          omega
        · have e1 : N + (J2 + 1) = (N + J2) + 1 := by omega
          rw [e1, hd, if_neg (by omega), go.2.2 olt can, k_bds, if_pos rfl, k2]
  obtain ⟨J1, A1, M1, j1, j2, j3, j4, j5, j6, j7, j8, j9⟩ := lp (e_mn E) 0 A0 M0 (by omega) (by rw [h3]; rfl) e_fmR gi (Int.le_refl _) m1 (fun i hi => by omega) (Or.inl ⟨rfl, fun _ => rfl⟩)
  -- the rest option
  have d7' : (la = -1 ∧ ln = 0) ∨ (0 ≤ la ∧ la < e_mn E ∧ u.testBit la.toNat = true ∧ 0 ≤ ln ∧ ln < n + 1) := by
    rcases d7 with h | h
    · exact Or.inl h
    · exact Or.inr ⟨h.1, h.2.1, h.2.2.1, h.2.2.2.1, by have := h.2.2.2.2; omega⟩
  have cA : e_cm (k_wt A1 142 n (e_mn E)) E s fr to := e_cmF cc (fun a i q => by rw [p_rwn (by omega), j4.1 a i (by omega)])
  have ndA : e_nd (k_wt A1 142 n (e_mn E)) E n u la ln ru wo := ⟨by rw [p_rwn (by omega), j4.2.1 _ _ (by omega) (by omega) (by omega)]; exact d1, by rw [p_rwn (by omega), j4.2.1 _ _ (by omega) (by omega) (by omega)]; exact d2, by rw [p_rwn (by omega), j4.2.1 _ _ (by omega) (by omega) (by omega)]; exact d3, by rw [p_rwn (by omega), j4.2.1 _ _ (by omega) (by omega) (by omega)]; exact d4, by rw [p_rwn (by omega), j4.2.1 _ _ (by omega) (by omega) (by omega)]; exact d5, d6, d7, d8, d9, d10⟩
  have fA : e_fm n A0 (k_wt A1 142 n (e_mn E)) := e_fmT j4 ⟨fun a i q => p_rwn (by omega), fun a i x y z => p_rwn (by omega), fun i x => p_rwn (by omega), fun m u' la' ln' ru' v q => e_mbE (fun i => p_rwn (by omega)) _⟩
  have bA : ∀ x, m_bit (k_wt A1 142 n (e_mn E)) x = m_bit A1 x := e_mbE (fun i => p_rwn (by omega))
  have hd := fun N => m_head N A1 s (e_mn E) M1 n cs (by rw [j4.1 _ _ (by omega)]; omega) (by omega) (o := e_mn E) j3 (by omega)
  have go := (m_go cA (o := e_mn E) (by omega) ndA p_rwe (Nat.le_refl _)).1 rfl
  have sd := e_sd4 (A := k_wt A1 142 n (e_mn E)) (n := n + 1) (a := (u : Int)) (b := la) (c := ln) (d := 0) (e := wo)
  have sdn := fun a i (q : a < 143 ∨ 147 < a ∨ i ≠ n + 1) => e_sdn (A := k_wt A1 142 n (e_mn E)) (n := n + 1) (a := (u : Int)) (b := la) (c := ln) (d := 0) (e := wo) (x := a) (i := i) q
  generalize hA9 : e_sd (k_wt A1 142 n (e_mn E)) (n + 1) u la ln 0 wo = A9 at sd sdn go
  have b9 : ∀ x, m_bit A9 x = m_bit A1 x := fun x => (e_mbE (fun i => sdn 149 i (by omega)) x).trans (bA x)
  have f9 : e_fm n A0 A9 := e_fmT fA ⟨fun a i q => sdn a i (by omega), fun a i x y z => sdn a i (by omega), fun i x => sdn 142 i (by omega), fun m u' la' ln' ru' v q => e_mbE (fun i => sdn 149 i (by omega)) _⟩
  obtain ⟨J2, A2, M2, k1, k2, k3, k4, k5, k6, k7⟩ := ch n A9 M1 la ln 0 wo u nf nk (e_cmF cA (fun a i q => sdn a i (by omega))) (fun x => by rw [e_alE (A := A0) (fun i => f9.1 141 i (by omega)), hal]) ⟨sd.1, sd.2.1, sd.2.2.1, sd.2.2.2.1, sd.2.2.2.2, d6, d7', Int.le_refl _, by omega, d10⟩ (fun j x y => by
    by_cases z : j = n
    · rw [z, sdn _ _ (by omega), p_rwe]; omega
    · rw [f9.2.2.1 j (by omega)]; exact ho j x (by omega)) (fun m u' la' ln' ru' a b v q => j5 m u' la' ln' ru' a b v (by rw [← b9]; exact q)) (by omega) j7
  have h4 : k_rd A2 142 n = (e_mn E : Int) := by rw [k4, sdn _ _ (by omega), p_rwe]
  have hd2 := fun N => m_head N A2 s (e_mn E) M2 n cs (by rw [k3.1 _ _ (by omega), f9.1 _ _ (by omega)]; omega) (by omega) (o := (e_mn E : Int) + 1) (by rw [h4]; omega) (by omega)
  have f2 : e_fm n A0 A2 := e_fmT f9 k3
  have bL : ∀ x, m_bit (k_wt A2 142 n ((e_mn E : Int) + 1)) x = m_bit A2 x := e_mbE (fun i => p_rwn (by omega))
  have rs : e_rs ((u, la, ln, ru) : e_s) = ((u, la, ln, 0) : e_s) := rfl
  have vr := Vm k (n + 1) ((u, la, ln, 0) : e_s)
  refine ⟨1 + J2 + 1 + J1, k_wt A2 142 n ((e_mn E : Int) + 1), M2, ?_, fun N => ?_, ?_, ?_, ?_, ?_⟩
  · rw [e_rc0 (by omega)] at j1
    by_cases k0 : k = 0
    · subst k0
      rw [if_pos rfl] at j1 k1
      rw [e_W]
      rw [Nat.mul_zero] at j1
      omega
    · obtain ⟨k', rfl⟩ : ∃ k', k = k' + 1 := ⟨k - 1, by omega⟩
      rw [if_neg k0, show k' + 1 - 1 = k' by omega] at j1 k1
      rw [e_W]
      omega
  · have e1 : N + (1 + J2 + 1 + J1) = (((N + 1) + J2) + 1) + J1 := by omega
    rw [e1, j2, hd, if_neg (by omega), go, k_bds, if_neg (by omega), k2, hd2, if_pos (by omega)]
  · exact e_fmT f2 ⟨fun a i q => p_rwn (by omega), fun a i x y z => p_rwn (by omega), fun i x => p_rwn (by omega), fun m u' la' ln' ru' v q => bL _⟩
  · exact fun m u' la' ln' ru' a b v q => k5 m u' la' ln' ru' a b v (by rw [← bL]; exact q)
  · rcases e_oX hp1 (k := k) (n := n) (s := ((u, la, ln, ru) : e_s)) with ⟨a, b, d⟩ | ⟨a, b, d, f⟩
    · rw [rs] at b
      rw [b, k6]
      rcases j9 with ⟨r1, r2⟩ | ⟨r1, i, r2, r3, r4, r5, r6⟩
      · omega
      · have := d i r2 r3
        omega
    · have q := j8 _ a b
      have vle : e_V E k (n + 1) ((u, la, ln, 0) : e_s) ≤ e_V E (k + 1) n ((u, la, ln, ru) : e_s) := by rw [e_V1, rs]; omega
      rw [k6]
      rcases j9 with ⟨r1, r2⟩ | ⟨r1, i, r2, r3, r4, r5, r6⟩
      · omega
      · have := e_scU (can := e_can E n ((u, la, ln, ru) : e_s)) (val := e_vl E k n ((u, la, ln, ru) : e_s)) (e_mn E) i r2 r3
        have v1 := e_V1 E k n ((u, la, ln, ru) : e_s)
        omega
  · have e149 : ∀ j : Int, k_rd (k_wt A2 142 n ((e_mn E : Int) + 1)) 148 j = k_rd A2 148 j := fun j => p_rwn (by omega)
    have pa : ∀ j : Int, ¬ j < n → ((e_pa E (k + 1) n ((u, la, ln, ru) : e_s) j : Nat) : Int) = if j = n then ((e_o E k n ((u, la, ln, ru) : e_s) : Nat) : Int) else ((e_pa E k (n + 1) (e_st E n ((u, la, ln, ru) : e_s) (e_o E k n ((u, la, ln, ru) : e_s))) j : Nat) : Int) := by
      intro j _
      rw [e_pa]
      split <;> rfl
    rcases e_oX hp1 (k := k) (n := n) (s := ((u, la, ln, ru) : e_s)) with ⟨a, b, d⟩ | ⟨a, b, d, f⟩
    · rw [rs] at b
      have bd : ∀ i, i < e_mn E → e_can E n ((u, la, ln, ru) : e_s) i = true → wo + e_vl E k n ((u, la, ln, ru) : e_s) i < wo + e_V E k (n + 1) ((u, la, ln, 0) : e_s) := fun i x y => by have := d i x y; omega
      rcases k7 with ⟨p1, p2⟩ | ⟨p1, p2⟩
      · rcases j9 with ⟨r1, r2⟩ | ⟨r1, i, r2, r3, r4, r5, r6⟩
        · exact Or.inl ⟨by omega, fun j => by rw [e149, p2, sdn _ _ (by omega), p_rwn (by omega), r2]⟩
        · have := bd i r2 r3
          omega
      · refine Or.inr ⟨by omega, fun j x y => ?_⟩
        rw [e149, p2 j x y]
        by_cases z : j < n
        · rw [if_pos (by omega), if_pos z, f9.2.2.1 j z]
        · rw [if_neg z, pa j z, a]
          by_cases z2 : j = n
          · rw [if_pos (by omega), if_pos z2, z2, sdn _ _ (by omega), p_rwe]
          · rw [if_neg (by omega), if_neg z2]
            unfold e_st
            rw [if_pos rfl, rs]
    · have q := j8 _ a b
      have vle : e_V E k (n + 1) ((u, la, ln, 0) : e_s) ≤ e_V E (k + 1) n ((u, la, ln, ru) : e_s) := by rw [e_V1, rs]; omega
      rcases k7 with ⟨p1, p2⟩ | ⟨p1, p2⟩
      · have e2 : ∀ j : Int, k_rd A2 148 j = k_rd A1 148 j := fun j => by rw [p2, sdn _ _ (by omega), p_rwn (by omega)]
        rcases j9 with ⟨r1, r2⟩ | ⟨r1, i, r2, r3, r4, r5, r6⟩
        · exact Or.inl ⟨by omega, fun j => by rw [e149, e2, r2]⟩
        · have sU := e_scU (can := e_can E n ((u, la, ln, ru) : e_s)) (val := e_vl E k n ((u, la, ln, ru) : e_s)) (e_mn E) i r2 r3
          have v1 := e_V1 E k n ((u, la, ln, ru) : e_s)
          have ie : i = e_o E k n ((u, la, ln, ru) : e_s) := by
            rcases Nat.lt_trichotomy i (e_o E k n ((u, la, ln, ru) : e_s)) with h | h | h
            · have := f i h r3; omega
            · exact h
            · have := r5 _ h b; omega
          refine Or.inr ⟨by omega, fun j x y => ?_⟩
          rw [e149, e2, r6 j x y]
          by_cases z : j < n
          · rw [if_pos z, if_pos z]
          · rw [if_neg z, if_neg z, pa j z, ie]
            unfold e_st
            rw [if_neg (show ¬ e_o E k n ((u, la, ln, ru) : e_s) = e_mn E by omega)]
      · omega
theorem m_all : ∀ k : Nat, e_X E s fr to al k := by
  intro k
  induction k with
  | zero => exact m_ex m_ch0
  | succ k ih => exact m_ex (m_chS ih)
end
