/-! the law's start -/
def k_FL0 : List Cond := flatC (Jvm.Cond.and given_1 narrow_1)
def k_tm (i : Nat) : Term := .string (k_SR.getD i ("", 0, "")).1 (k_SR.getD i ("", 0, "")).2.1
theorem k_s1 : ∀ i, i < 11 → Cond.exactly (k_tm i) "java/lang/String" ∈ k_FL0 := by decide +kernel
theorem k_s2 : ∀ i, i < 11 → Cond.eq (.field (k_tm i) "java/lang/String" "coder" "B") (.int 0) ∈ k_FL0 := by decide +kernel
theorem k_s3 : ∀ i, i < 11 → Cond.arrayOf (.field (k_tm i) "java/lang/String" "value" "[B") .byte ∈ k_FL0 := by decide +kernel
theorem k_s4 : ∀ i, i < 11 → Cond.eq (.length (.field (k_tm i) "java/lang/String" "value" "[B")) (.int (Int32.ofNat (k_sl.getD i 0))) ∈ k_FL0 := by decide +kernel
theorem k_s5 : ∀ i, i < 11 → ∀ j, j < k_sl.getD i 0 → Cond.eq (.elem (.field (k_tm i) "java/lang/String" "value" "[B") (.int (Int32.ofNat j))) (.int ((k_sb.getD i []).getD j 0)) ∈ k_FL0 := by decide +kernel
theorem k_s6 : ∀ i, i < 11 → ∀ j, j < 11 → i ≠ j → (Cond.not (Cond.eq (k_tm i) (k_tm j)) ∈ k_FL0 ∨ Cond.not (Cond.eq (k_tm j) (k_tm i)) ∈ k_FL0) := by decide +kernel
theorem k_s7 : Cond.eq (.static "java/lang/String" "COMPACT_STRINGS" "Z") (.int 1) ∈ k_FL0 := by decide +kernel
theorem k_s8 : Cond.isRef (.static "jdk/internal/util/Preconditions" "SIOOBE_FORMATTER" "Ljava/util/function/BiFunction;") ∈ k_FL0 := by decide +kernel
theorem k_s9 : Cond.isRef (.static "java/lang/Throwable" "UNASSIGNED_STACK" "[Ljava/lang/StackTraceElement;") ∈ k_FL0 := by decide +kernel
theorem k_s10 : Cond.isRef (.static "java/lang/Throwable" "SUPPRESSED_SENTINEL" "Ljava/util/List;") ∈ k_FL0 := by decide +kernel
theorem k_t0 {w : Cond} (i : Nat) (h : tables_1[i]? = some w) : w ∈ lw_tbl := List.mem_append_right _ (List.mem_of_getElem? h)
theorem k_n0 : ∀ q ∈ k_NW, Cond.methodLinkNest q.1 q.2.1 q.2.2.1 q.2.2.2 ∈ tables_1 := by decide +kernel
theorem k_n1 : ∀ q ∈ k_CA, Cond.castable q.1 q.2 ∈ tables_1 := by decide +kernel
theorem k_n2 : ∀ x ∈ k_DE, Cond.declares x ∈ tables_1 := by decide +kernel
theorem k_n3 : ∀ i, i < 11 → Cond.stringRef (k_SR.getD i ("", 0, "")).1 (k_SR.getD i ("", 0, "")).2.1 (k_SR.getD i ("", 0, "")).2.2 ∈ tables_1 := by decide +kernel
theorem k_arr {args : Array Value} {s : State} {ty : FieldType} (h : (Cond.arrayClass ty).before args s = true) (hp : refKind ty = false) : ∃ cA : ClassId, ArrOfT s cA ty ∧ va_RA s cA ty := by
  obtain ⟨cA, kA, comp, h1, h2, h3⟩ := Cond.arrayClass_spec h
  refine ⟨cA, fun N z => ⟨(fun k h => by cases h), kA, h2, comp, h3⟩, ?_⟩
  cases ty with
  | object C => cases hp
  | _ => exact h1
theorem k_arrO {args : Array Value} {s : State} {C : String} (h : (Cond.arrayOver (.object C)).before args s = true) : ∃ cA : ClassId, ArrOfT s cA (.object C) ∧ va_RA s cA (.object C) := by
  obtain ⟨comp, cA, kA, h1, -, h2, h3, h4⟩ := Cond.arrayOver_spec h
  exact ⟨cA, fun N z => ⟨(fun k h => by cases h), kA, h2, comp, h3⟩, kA, comp, h2, h3, h1, h4⟩
set_option maxHeartbeats 4000000 in
theorem k_KS {args : Array Value} {s : State} (hts : ∀ w ∈ lw_tbl, w.before args s = true) : ∃ (D : va_G) (cy : Nat → ClassId), va_K D vwCl (k_TY cy) s := by
  have hgw : ∀ w ∈ k_GW, w.before args s = true := fun w hw => hts w (List.mem_filter.mp hw).1
  have h1 : ∀ c : Nat, ∃ y : ClassId × (Nat → Nat), ∀ q, vwCl[c]? = some q → u_Kn s q.1 q.2.1 q.2.2 y.1 y.2 := by
    intro c
    have h0 : ∀ (c : Nat) (q : vw_C), vwCl[c]? = some q → ∃ (cC : ClassId) (iS : Nat → Nat), u_Kn s q.1 q.2.1 q.2.2 cC iS := by
      intro c q h
      match c, q, h with
    | 0, q, h => cases h; obtain ⟨cC, iS, hk⟩ := u_known (n := 2) hgw k_uw0 (hgw _ (k_gt 214 (by decide +kernel) (by decide +kernel))); exact ⟨cC, iS, hk⟩
    | 1, q, h => cases h; obtain ⟨cC, iS, hk⟩ := u_known (n := 6) hgw k_uw1 (hgw _ (k_gt 208 (by decide +kernel) (by decide +kernel))); exact ⟨cC, iS, hk⟩
    | 2, q, h => cases h; obtain ⟨cC, iS, hk⟩ := u_known (n := 10) hgw k_uw2 (hgw _ (k_gt 87 (by decide +kernel) (by decide +kernel))); exact ⟨cC, iS, hk⟩
    | 3, q, h => cases h; obtain ⟨cC, iS, hk⟩ := u_known (n := 9) hgw k_uw3 (hgw _ (k_gt 53 (by decide +kernel) (by decide +kernel))); exact ⟨cC, iS, hk⟩
    | 4, q, h => cases h; obtain ⟨cC, iS, hk⟩ := u_known (n := 10) hgw k_uw4 (hgw _ (k_gt 257 (by decide +kernel) (by decide +kernel))); exact ⟨cC, iS, hk⟩
    | 5, q, h => cases h; obtain ⟨cC, iS, hk⟩ := u_known (n := 2) hgw k_uw5 (hgw _ (k_gt 32 (by decide +kernel) (by decide +kernel))); exact ⟨cC, iS, hk⟩
    | 6, q, h => cases h; obtain ⟨cC, iS, hk⟩ := u_known (n := 7) hgw k_uw6 (hgw _ (k_gt 131 (by decide +kernel) (by decide +kernel))); exact ⟨cC, iS, hk⟩
    | 7, q, h => cases h; obtain ⟨cC, iS, hk⟩ := u_known (n := 12) hgw k_uw7 (hgw _ (k_gt 125 (by decide +kernel) (by decide +kernel))); exact ⟨cC, iS, hk⟩
    | 8, q, h => cases h; obtain ⟨cC, iS, hk⟩ := u_known (n := 8) hgw k_uw8 (hgw _ (k_gt 24 (by decide +kernel) (by decide +kernel))); exact ⟨cC, iS, hk⟩
    | 9, q, h => cases h; obtain ⟨cC, iS, hk⟩ := u_known (n := 43) hgw k_uw9 (hgw _ (k_gt 868 (by decide +kernel) (by decide +kernel))); exact ⟨cC, iS, hk⟩
    cases hq : vwCl[c]? with
    | none => exact ⟨(0, fun _ => 0), fun q h => by cases h⟩
    | some q =>
      obtain ⟨cC, iS, hk⟩ := h0 c q hq
      exact ⟨(cC, iS), fun q' h => by cases h; exact hk⟩
  obtain ⟨f, hf⟩ := Classical.axiomOfChoice h1
  obtain ⟨cB, b1, b2⟩ := k_arr (ty := .byte) (hts _ (k_t0 735 (by decide +kernel))) rfl
  obtain ⟨cI, i1, i2⟩ := k_arr (ty := .int) (hts _ (k_t0 47 (by decide +kernel))) rfl
  obtain ⟨cJ, j1, j2⟩ := k_arr (ty := .long) (hts _ (k_t0 123 (by decide +kernel))) rfl
  obtain ⟨cH, q1, q2⟩ := k_arrO (C := RX1) (hts _ (k_t0 49 (by decide +kernel)))
  obtain ⟨cS, r1, r2⟩ := k_arrO (C := RX4) (hts _ (k_t0 51 (by decide +kernel)))
  refine ⟨(fun c => (f c).1, fun c => (f c).2), fun k => if k = 20 then cB else if k = 21 then cI else if k = 22 then cJ else if k = 23 then cH else cS, fun c q h => hf c q h, fun k q hk => ?_⟩
  match k, hk with
  | 0, hk => cases hk; exact ⟨b1, b2⟩
  | 1, hk => cases hk; exact ⟨i1, i2⟩
  | 2, hk => cases hk; exact ⟨j1, j2⟩
  | 3, hk => cases hk; exact ⟨q1, q2⟩
  | 4, hk => cases hk; exact ⟨r1, r2⟩
set_option maxHeartbeats 4000000 in
theorem k_EX0 {args : Array Value} {s : State} {b L : Nat} {xs : Nat → Int32} (hts : ∀ w ∈ lw_tbl, w.before args s = true) (hgv : (Jvm.Cond.and given_1 narrow_1).before args s = true) (hX : va_X b L xs s s.heap) (hbl : b < s.heap.size) : ∃ al : Int → Nat, al (-2) = b ∧ k_EX al (L, xs) (fun q => s.heap.size ≤ q) s := by
  have hs : ∀ w ∈ k_FL0, w.before args s = true := flat_of_before _ hgv
  have hA : ∀ a : Nat, a < s.heap.size → ¬ (fun q => s.heap.size ≤ q) a := fun a h z => absurd z (Nat.not_le.mpr h)
  obtain ⟨adK, adV, hS, hev⟩ := vk_Sof (args := args) (s := s) (N := 11) (tm := k_tm) (len := k_sl) (byt := k_sb) (A := fun q => s.heap.size ≤ q) (fun i hi => Nat.lt_of_lt_of_le (k_sl_small i hi) (by decide)) (fun i hi => hs _ (k_s1 i hi)) (fun i hi => hs _ (k_s2 i hi)) (fun i hi => hs _ (k_s3 i hi)) (fun i hi => hs _ (k_s4 i hi)) (fun i hi j hj => hs _ (k_s5 i hi j hj)) (fun i j hi hj hn => (k_s6 i hi j hj hn).imp (hs _) (hs _)) hA
  have hz := va_Zof (A := fun q => s.heap.size ≤ q) (hts _ (k_t0 646 (by decide +kernel))) (hts _ (k_t0 15 (by decide +kernel))) (va_eqt (hs _ k_s7)) hA
  have hf := va_Zqof (A := fun q => s.heap.size ≤ q) (hts _ (k_t0 662 (by decide +kernel))) (hts _ (k_t0 17 (by decide +kernel))) (hs _ k_s8) hA
  have hu := vx_Zqof (A := fun q => s.heap.size ≤ q) (hts _ (k_t0 820 (by decide +kernel))) (hts _ (k_t0 19 (by decide +kernel))) (hs _ k_s9) hA
  have hn := vx_Zqof (A := fun q => s.heap.size ≤ q) (hts _ (k_t0 822 (by decide +kernel))) (hts _ (k_t0 19 (by decide +kernel))) (hs _ k_s10) hA
  obtain ⟨t, ht⟩ : ∃ t : Nat, va_Z "jdk/internal/util/Preconditions" "SIOOBE_FORMATTER" "Ljava/util/function/BiFunction;" .null (fun q => s.heap.size ≤ q) s s.heap ∨ va_Z "jdk/internal/util/Preconditions" "SIOOBE_FORMATTER" "Ljava/util/function/BiFunction;" (.ref t) (fun q => s.heap.size ≤ q) s s.heap := by
    rcases hf with h | ⟨t, h⟩
    · exact ⟨0, Or.inl h⟩
    · exact ⟨t, Or.inr h⟩
  have eK : (fun k : Nat => (fun z : Int => if z = -2 then b else if z = -3 then t else if -20 < z + 1 ∧ z < -9 then adK (-10 - z).toNat else adV (-40 - z).toNat) (-10 - (k : Int))) = fun k : Nat => if k < 11 then adK k else adV (-40 - (-10 - (k : Int))).toNat := by
    funext k
    show (if (-10 - (k : Int)) = -2 then b else if (-10 - (k : Int)) = -3 then t else if -20 < (-10 - (k : Int)) + 1 ∧ (-10 - (k : Int)) < -9 then adK (-10 - (-10 - (k : Int))).toNat else adV (-40 - (-10 - (k : Int))).toNat) = _
    rw [if_neg (by omega), if_neg (by omega)]
    by_cases hk : k < 11
    · rw [if_pos (by omega), if_pos hk]; congr 1; omega
    · rw [if_neg (by omega), if_neg hk]
  have eV : (fun k : Nat => (fun z : Int => if z = -2 then b else if z = -3 then t else if -20 < z + 1 ∧ z < -9 then adK (-10 - z).toNat else adV (-40 - z).toNat) (-40 - (k : Int))) = fun k : Nat => adV k := by
    funext k
    show (if (-40 - (k : Int)) = -2 then b else if (-40 - (k : Int)) = -3 then t else if -20 < (-40 - (k : Int)) + 1 ∧ (-40 - (k : Int)) < -9 then adK (-10 - (-40 - (k : Int))).toNat else adV (-40 - (-40 - (k : Int))).toNat) = _
    rw [if_neg (by omega), if_neg (by omega), if_neg (by omega)]
    congr 1; omega
  have hs2 : ∀ i : Nat, i < 11 → (fun k : Nat => if k < 11 then adK k else adV (-40 - (-10 - (k : Int))).toNat) i = adK i := fun i hi => if_pos hi
  refine ⟨fun z : Int => if z = -2 then b else if z = -3 then t else if -20 < z + 1 ∧ z < -9 then adK (-10 - z).toNat else adV (-40 - z).toNat, rfl, fun q hq => va_Nw.of rfl (hts _ (List.mem_append_right _ (k_n0 q hq))), va_AO.of (hts _ (k_t0 49 (by decide +kernel))), va_AO.of (hts _ (k_t0 51 (by decide +kernel))), ⟨hX, hbl, hA b hbl⟩, ?_, fun i q hq => ?_, hz, ht, fun q hq => va_Nw.of rfl (hts _ (List.mem_append_right _ (k_n1 q hq))), fun x hx => va_Nw.of rfl (hts _ (List.mem_append_right _ (k_n2 x hx))), hu, hn⟩
  · rw [eK, eV]
    refine ⟨fun i hi => ?_, fun i j hi hj h => ?_⟩
    · rw [hs2 i hi]; exact hS.1 i hi
    · rw [hs2 i hi, hs2 j hj] at h; exact hS.2 i j hi hj h
  · have hi : i < 11 := (List.getElem?_eq_some_iff.mp hq).1
    have eq1 : k_SR.getD i ("", 0, "") = q := by rw [List.getD_eq_getElem?_getD, hq]; rfl
    have h1 := hts _ (List.mem_append_right _ (k_n3 i hi))
    have h2 := hev i hi
    unfold k_tm at h2
    rw [eq1] at h1 h2
    have e3 := (congrFun eK i).trans (if_pos hi)
    show vk_R q.1 q.2.1 q.2.2 _ s
    rw [e3]
    have h3 : (Term.string q.1 q.2.1).eval #[] s none [] s = some (.ref (adK i)) := by
      rw [← h2]; rfl
    exact ⟨by
      have h4 := h1
      exact h4, h3⟩
