/-! the reference's search -/
def e_X (E : e_E) (s fr to : Int) (al : Int → Int) (k : Nat) : Prop := ∀ (n : Int) (A : k_H) (M la ln ru wo : Int) (u : Nat), fr ≤ n → n + k = to → e_cm A E s fr to → (∀ x, e_al A E x = al x) → e_nd A E n u la ln ru wo → k_rd A 142 n = -1 → (∀ j : Int, fr ≤ j → j < n → 0 ≤ k_rd A 142 j) → e_GI A E to n M → -1 ≤ M → M ≤ 1000 → ∃ J A' M', J ≤ e_W k (6 - e_pc u).toNat ∧ (∀ N, gX9_book_h165 (N + J) A s (e_mn E) M n = gX9_book_h165 N A' s (e_mn E) M' (n - 1)) ∧ e_fm n A A' ∧ e_GI A' E to n M' ∧ M' = max M (wo + e_V E (k + 1) n ((u, la, ln, ru) : e_s)) ∧ ((M' = M ∧ ∀ j : Int, k_rd A' 148 j = k_rd A 148 j) ∨ (M < M' ∧ ∀ j : Int, fr ≤ j → j ≤ to → k_rd A' 148 j = al (if j < n then k_rd A 142 j else ((e_pa E (k + 1) n ((u, la, ln, ru) : e_s) j : Nat) : Int))))
def e_Ch (E : e_E) (s fr to : Int) (al : Int → Int) (k : Nat) : Prop := ∀ (n : Int) (A : k_H) (M la ln ru wo : Int) (u : Nat), fr ≤ n → n + k = to → e_cm A E s fr to → (∀ x, e_al A E x = al x) → e_nd A E (n + 1) u la ln ru wo → (∀ j : Int, fr ≤ j → j ≤ n → 0 ≤ k_rd A 142 j) → e_GI A E to n M → -1 ≤ M → M ≤ 1000 → ∃ J A' M', J ≤ (if k = 0 then 0 else e_W (k - 1) (6 - e_pc u).toNat) ∧ (∀ N, e_af (gX9_book_h165 (N + J)) A s (e_mn E) M n = gX9_book_h165 N A' s (e_mn E) M' n) ∧ e_fm n A A' ∧ k_rd A' 142 n = k_rd A 142 n ∧ e_GI A' E to n M' ∧ M' = max M (wo + e_V E k (n + 1) ((u, la, ln, ru) : e_s)) ∧ ((M' = M ∧ ∀ j : Int, k_rd A' 148 j = k_rd A 148 j) ∨ (M < M' ∧ ∀ j : Int, fr ≤ j → j ≤ to → k_rd A' 148 j = al (if j < n + 1 then k_rd A 142 j else ((e_pa E k (n + 1) ((u, la, ln, ru) : e_s) j : Nat) : Int))))
section
variable {E : e_E} {s fr to : Int} {al : Int → Int}
theorem m_cpy {M n1 : Int} (hs : 0 ≤ s ∧ s < 6) (hm6 : e_mn E ≤ 6) (h0 : 0 ≤ fr) (ht : to ≤ 13) (n1b : 0 ≤ n1 ∧ n1 ≤ 100) : ∀ (d N : Nat) (A : k_H) (j : Int), j + d = to + 1 → fr ≤ j → k_rd A 133 s = to → (∀ x : Int, j ≤ x → x ≤ to → 0 ≤ k_rd A 142 x) → ∃ A', (∀ K : k_H → Int → Int → Int → Int → Option (Int × k_H), gX9_book_h259 K (N + d + 1) A s (e_mn E) M n1 j = K A' s (e_mn E) M (n1 - 1)) ∧ (∀ a i : Int, a ≠ 148 → k_rd A' a i = k_rd A a i) ∧ (∀ i : Int, i < j → k_rd A' 148 i = k_rd A 148 i) ∧ ∀ x : Int, j ≤ x → x ≤ to → k_rd A' 148 x = e_al A E (k_rd A 142 x) := by
  intro d
  induction d with
  | zero =>
    intro N A j jd jf h4 ho
    refine ⟨A, fun K => ?_, fun _ _ _ => rfl, fun _ _ => rfl, fun x a b => by omega⟩
    rw [gX9_book_h259, if_pos (by omega), h4, if_neg (by omega)]
    unfold gX9_book_b310
    rw [k_wr_of (x := n1 + -1) (by omega) (by omega)]
    rfl
  | succ d ih =>
    intro N A j jd jf h4 ho
    have oj := ho j (by omega) (by omega)
    have step : ∀ K : k_H → Int → Int → Int → Int → Option (Int × k_H), gX9_book_h259 K ((N + d + 1) + 1) A s (e_mn E) M n1 j = gX9_book_h259 K (N + d + 1) (k_wt A 148 j (e_al A E (k_rd A 142 j))) s (e_mn E) M n1 (j + 1) := by
      intro K
      rw [gX9_book_h259, if_pos (by omega), h4, if_pos (by omega), if_pos (by omega)]
      simp only [gX9_book_b303]
      rw [k_wr_of (x := j + 1) (by omega) (by omega)]
      unfold e_al
      by_cases z : k_rd A 142 j < e_mn E
      · rw [if_pos z, if_pos (by omega), if_pos (by omega), p_lt, if_pos z]
      · rw [if_neg z, if_pos (by omega), p_lt, if_neg z]
    obtain ⟨A', e1, e2, e3, e4⟩ := ih N (k_wt A 148 j (e_al A E (k_rd A 142 j))) (j + 1) (by omega) (by omega) (by rw [p_rwn (by omega)]; exact h4) (fun x a b => by rw [p_rwn (by omega)]; exact ho x (by omega) b)
    refine ⟨A', fun K => (step K).trans (e1 K), fun a i q => by rw [e2 a i q, p_rwn (Or.inl q)], fun i q => by rw [e3 i (by omega), p_rwn (Or.inr (by omega))], fun x a b => ?_⟩
    by_cases z : x = j
    · rw [z, e3 j (by omega), p_rwe]
    · rw [e4 x (by omega) b, p_rwn (by omega)]
      unfold e_al
      rw [p_rwn (by omega)]
theorem m_ch0 : e_Ch E s fr to al 0 := by
  intro n A M la ln ru wo u nf nk c hal nd ho gi m0 m1
  have cc := c
  have wb := e_woB c u
  have wb0 := e_woB c 0
  obtain ⟨cs, ⟨c33, c34, cf0, cft, ct⟩, cmi, ⟨c36, cr1, cr2⟩, cm6, cpt, cap, cbx, cby, cS, ccl⟩ := c
  have d5 := nd.2.2.2.2.1
  have d10 := nd.2.2.2.2.2.2.2.2.2
  rw [if_pos rfl]
  have gi' : ∀ A' M', e_GI A' E to n M' := fun A' M' m u la ln ru a b => by omega
  have v0 : e_V E 0 (n + 1) ((u, la, ln, ru) : e_s) = 0 := rfl
  rw [v0]
  by_cases z : M < wo
  · obtain ⟨N2, hN2⟩ := p_FU ((to + 1 - fr).toNat + 1) (by have : k_FU = 1073741824 := rfl; omega)
    obtain ⟨A', e1, e2, e3, e4⟩ := m_cpy (E := E) (s := s) (fr := fr) (to := to) (M := wo) (n1 := n + 1) cs cm6 cf0 ct (by omega) (to + 1 - fr).toNat N2 A fr (by omega) (Int.le_refl _) c34 (fun x a b => ho x a (by omega))
    have hN3 : k_FU = N2 + (to + 1 - fr).toNat + 1 := hN2
    have eb : ∀ x, m_bit A' x = m_bit A x := e_mbE (fun i => e2 149 i (by omega))
    refine ⟨0, A', wo, Nat.le_refl _, fun N => ?_, ⟨fun a i q => e2 a i (by omega), fun a i x y z => e2 a i (by omega), fun i x => e2 142 i (by omega), fun m u la ln ru x y => eb _⟩, e2 142 n (by omega), gi' _ _, by omega, Or.inr ⟨z, fun j x y => ?_⟩⟩
    · unfold e_af
      rw [if_pos (by omega), c34, k_wr_of (x := n + 1) (by omega) (by omega), if_pos (by omega), if_pos (by omega), d5, if_pos z, c33, hN3, e1, show n + 1 - 1 = n by omega]
      rfl
    · rw [if_pos (by omega), e4 j x y, hal]
  · refine ⟨0, A, M, Nat.le_refl _, fun N => ?_, e_fmR, rfl, gi' _ _, by omega, Or.inl ⟨rfl, fun _ => rfl⟩⟩
    unfold e_af
    rw [if_pos (by omega), c34, k_wr_of (x := n + 1) (by omega) (by omega), if_pos (by omega), if_pos (by omega), d5, if_neg z]
    unfold gX9_book_b310
    rw [k_wr_of (x := n + 1 + -1) (by omega) (by omega), show n + 1 + -1 = n by omega]
    rfl
theorem e_alE {A B : k_H} {E : e_E} (h : ∀ i, k_rd B 141 i = k_rd A 141 i) (x : Int) : e_al B E x = e_al A E x := by unfold e_al; rw [h]
theorem m_chS {k : Nat} (ih : e_X E s fr to al k) : e_Ch E s fr to al (k + 1) := by
  intro n A M la ln ru wo u nf nk c hal nd ho gi m0 m1
  have cc := c
  have wb := e_woB c u
  have wb0 := e_woB c 0
  have vm := e_Vm c (k + 1) (n + 1) ((u, la, ln, ru) : e_s)
  obtain ⟨cs, ⟨c33, c34, cf0, cft, ct⟩, cmi, ⟨c36, cr1, cr2⟩, cm6, cpt, cap, cbx, cby, cS, ccl⟩ := c
  obtain ⟨d1, d2, d3, d4, d5, d6, d7, d8, d9, d10⟩ := nd
  have u64 := e_pow cm6
  have ek : (to + 1 - (n + 1)).toNat = k + 1 := by omega
  have ve : e_va (n + 1) u la ln ru := ⟨by omega, by omega, by omega, by omega, by omega, by omega⟩
  have eu : e_u ((u, la, ln, ru) : e_s) = u := rfl
  rw [eu] at vm
  rw [if_neg (by omega), show k + 1 - 1 = k by omega]
  obtain ⟨B, w1, w2, w3⟩ := m_was (A := A) (m := n + 1) (by omega) d1 d2 d3 d4 (by omega) (by omega) (by omega) (by omega)
  have wbit : ∀ (m : Int) (u' : Nat) (la' ln' ru' : Int), e_va m u' la' ln' ru' → m_bit B (e_cd m u' la' ln' ru') = (m_bit A (e_cd m u' la' ln' ru') || decide (e_cd m u' la' ln' ru' = e_cd (n + 1) u la ln ru)) := fun m u' la' ln' ru' v => w3 _ (e_cdB v).1 (e_cdB v).2
  have fB : e_fm n A B := ⟨fun a i q => w2 a i (by omega), fun a i x y z => w2 a i (by omega), fun i x => w2 142 i (by omega), fun m u' la' ln' ru' v q => by
    rw [wbit m u' la' ln' ru' v, decide_eq_false (fun e => by have := e_cdI v ve e; omega), Bool.or_false]⟩
  have cB : e_cm B E s fr to := e_cmF cc (fun a i q => w2 a i (by omega))
  have af : ∀ K, e_af K A s (e_mn E) M n = if m_bit A (e_cd (n + 1) u la ln ru) = true then K B s (e_mn E) M n else if wo + p_sum (e_ur E u) (e_mn E) ≤ M then K B s (e_mn E) M n else K (k_wt B 142 (n + 1) (-1)) s (e_mn E) M (n + 1) := by
    intro K
    unfold e_af
    rw [if_pos (by omega), c34, k_wr_of (x := n + 1) (by omega) (by omega), if_neg (by omega), w1, k_bds]
    simp only [gX9_book_b345]
    rw [k_wr_of (x := n + 1 + -1) (by omega) (by omega), show n + 1 + -1 = n by omega]
    by_cases z : m_bit A (e_cd (n + 1) u la ln ru) = true
    · rw [if_pos z, if_neg (by omega), if_pos z]
    · rw [if_neg z, if_pos rfl, if_neg z, if_pos (by omega), m_rst cB (by omega) d6 (by rw [w2 _ _ (by omega)]; exact d1), k_bds, w2 147 _ (by omega), d5, k_wr_of (x := wo + p_sum (e_ur E u) (e_mn E)) (by omega) (by omega)]
      by_cases y : wo + p_sum (e_ur E u) (e_mn E) ≤ M
      · rw [if_pos y, if_pos y]
      · rw [if_neg y, if_neg y, if_pos (by omega), p_lt]
  have giB : e_GI B E to (n + 1) M := fun m u' la' ln' ru' a b v q => by
    rw [wbit m u' la' ln' ru' v, decide_eq_false (fun e => by have := e_cdI v ve e; omega), Bool.or_false] at q
    exact gi m u' la' ln' ru' (by omega) b v q
  -- marks of this night, where this node is done
  have giN : ∀ A' M', M ≤ M' → e_GI A' E to (n + 1) M' → (∀ (m : Int) (u' : Nat) (la' ln' ru' : Int), e_va m u' la' ln' ru' → m ≤ n + 1 → m_bit A' (e_cd m u' la' ln' ru') = m_bit B (e_cd m u' la' ln' ru')) → e_wo E u + e_V E (k + 1) (n + 1) ((u, la, ln, ru) : e_s) ≤ M' → e_GI A' E to n M' := by
    intro A' M' mm g fm done m u' la' ln' ru' a b v q
    by_cases e : m = n + 1
    · rw [fm m u' la' ln' ru' v (by omega), wbit m u' la' ln' ru' v] at q
      by_cases y : e_cd m u' la' ln' ru' = e_cd (n + 1) u la ln ru
      · obtain ⟨y1, y2, y3, y4, y5⟩ := e_cdI v ve y
        subst y1 y2 y3 y4 y5
        rw [ek]; exact done
      · rw [decide_eq_false y, Bool.or_false] at q
        exact Int.le_trans (gi m u' la' ln' ru' a b v q) mm
    · exact g m u' la' ln' ru' (by omega) b v q
  have ewo : e_wo E u = wo := d10.symm
  rw [ewo] at giN
  by_cases z : m_bit A (e_cd (n + 1) u la ln ru) = true
  · have dom := gi (n + 1) u la ln ru (by omega) (by omega) ve z
    rw [ek, ewo] at dom
    refine ⟨0, B, M, Nat.zero_le _, fun N => by rw [af, if_pos z]; rfl, fB, w2 142 n (by omega), giN B M (Int.le_refl _) giB (fun _ _ _ _ _ _ _ => rfl) dom, by omega, Or.inl ⟨rfl, fun j => w2 148 j (by omega)⟩⟩
  · by_cases y : wo + p_sum (e_ur E u) (e_mn E) ≤ M
    · refine ⟨0, B, M, Nat.zero_le _, fun N => by rw [af, if_neg z, if_pos y]; rfl, fB, w2 142 n (by omega), giN B M (Int.le_refl _) giB (fun _ _ _ _ _ _ _ => rfl) (by omega), by omega, Or.inl ⟨rfl, fun j => w2 148 j (by omega)⟩⟩
    · have bit2 : ∀ x, m_bit (k_wt B 142 (n + 1) (-1)) x = m_bit B x := e_mbE (fun i => p_rwn (by omega))
      obtain ⟨J, A', M', j1, j2, j3, j4, j5, j6⟩ := ih (n + 1) (k_wt B 142 (n + 1) (-1)) M la ln ru wo u (by omega) (by omega) (e_cmF cB (fun a i q => p_rwn (by omega))) (fun x => by rw [e_alE (A := A) (fun i => by rw [p_rwn (by omega), w2 _ _ (by omega)]), hal]) ⟨by rw [p_rwn (by omega), w2 _ _ (by omega)]; exact d1, by rw [p_rwn (by omega), w2 _ _ (by omega)]; exact d2, by rw [p_rwn (by omega), w2 _ _ (by omega)]; exact d3, by rw [p_rwn (by omega), w2 _ _ (by omega)]; exact d4, by rw [p_rwn (by omega), w2 _ _ (by omega)]; exact d5, d6, d7, d8, d9, d10⟩ p_rwe (fun j x y => by rw [p_rwn (by omega), w2 _ _ (by omega)]; exact ho j x (by omega)) (fun m u' la' ln' ru' a b v q => giB m u' la' ln' ru' a b v (by rw [← bit2]; exact q)) m0 m1
      have op : ∀ j : Int, j < n + 1 → k_rd (k_wt B 142 (n + 1) (-1)) 142 j = k_rd A 142 j := fun j q => by rw [p_rwn (by omega), w2 _ _ (by omega)]
      refine ⟨J, A', M', j1, fun N => ?_, ?_, ?_, ?_, j5, ?_⟩
      · rw [af, if_neg z, if_neg y, j2, show n + 1 - 1 = n by omega]
      · refine e_fmT fB ⟨fun a i q => by rw [j3.1 a i q, p_rwn (by omega)], fun a i x y z => by rw [j3.2.1 a i x y (by omega), p_rwn (by omega)], fun i x => by rw [j3.2.2.1 i (by omega), p_rwn (by omega)], fun m u' la' ln' ru' v q => by rw [j3.2.2.2 m u' la' ln' ru' v (by omega), bit2]⟩
      · rw [j3.2.2.1 n (by omega), op n (by omega)]
      · exact giN A' M' (by omega) j4 (fun m u' la' ln' ru' v q => by rw [j3.2.2.2 m u' la' ln' ru' v q, bit2]) (by omega)
      · rcases j6 with ⟨q1, q2⟩ | ⟨q1, q2⟩
        · exact Or.inl ⟨q1, fun j => by rw [q2 j, p_rwn (by omega), w2 _ _ (by omega)]⟩
        · refine Or.inr ⟨q1, fun j x y => ?_⟩
          rw [q2 j x y]
          by_cases jn : j < n + 1
          · rw [if_pos jn, if_pos jn, op j jn]
          · rw [if_neg jn, if_neg jn]
end
