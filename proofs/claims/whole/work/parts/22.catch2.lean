theorem k_ini_nse : Cond.initialized k_NSE ∈ k_GW := k_gt 22 (by decide +kernel) (by decide +kernel)
theorem k_exc_big {n : Nat} : ¬ k_gv n (0, k_EXC) := fun h => absurd h.2 (by decide)
set_option maxHeartbeats 4000000 in
theorem k_ATh_of {d : Nat} {M : k_M} {as ls : List k_V} {A : k_H} {A1 : k_H} (hM : k_nothr M = false) (hcls : M.1.cls = "VanPlays") (hh0 : k_hh M = none) (hp : plainName M.1.cls = true) (ht : ∀ v ∈ as, v.1 < 3) (hl : (k_en as).length ≤ M.2.2.1) (hls : ∀ (k : Nat) (v : k_V), ls[k]? = some v → v.1 < 3 → (k_en as)[k]? = some v) (hg : k_gl (k_N A) as → k_gl (k_N A) ls) (hd6 : 6 ≤ d) (h : k_AW d M 0 ls [] A k_EXC A1) : k_ATh d M as A A1 := by
  refine ⟨h.1, fun l hl9 D cy al0 sc sz => ?_⟩
  refine vx_ofW (cc := M.2.1) (maxL := M.2.2.1) (ret := M.2.2.2) hp rfl ?_
  intro p e s m args below meth c s₁ B hml hnot hv
  obtain ⟨rfl, hsz, hP, hD, hK, gh, ga, hsc, hEX⟩ := hv
  subst hsz
  have hts := atoms_spec (ws := .code M.1 M.2.1 M.2.2.1 M.2.2.2 :: k_GW) B.pre
  have hts1 : ∀ w ∈ k_GW, w.before (as.map (k_tv al0)).toArray s = true := fun w hw => hts w (List.mem_cons_of_mem _ hw)
  have hC : k_Cx d M p { frames := d, cells := k_U A1 - k_U A + 1, slots := k_T A1 - k_T A + 6, locals := 50 * d } s m (as.map (k_tv al0)).toArray meth c D cy (va_A (k_ws cy al0 A) s.heap.size) al0 sc :=
    ⟨B.exec, B.bytes, hml, B.returns, findClass_of_methodNamed B.named, hts1, B.notSynchronized, (name_of_methodNamed B.named B.method).1, hK, fun q hq => Or.inr hq, Nat.le_refl _, Nat.le_refl _, hEX⟩
  have hlen := k_en_len al0 as ht
  rw [lg_entry_eq]
  have hl0 := lv_entry (as.map (k_tv al0)) (n := M.2.2.1) (by rw [hlen]; exact hl)
  refine h.2 p l e _ s m _ below meth c _ D cy (va_A (k_ws cy al0 A) s.heap.size) al0 sc (k_N A, k_U A, k_T A) al0 s.heap [] 0 0 _ hC ⟨?_, ?_⟩ ⟨hl9, (fun h hh => by rw [hh0] at hh; cases hh), ?_⟩ ⟨hP, hD.self, va_S.rf, gh, hsc, ⟨Nat.zero_add _, Nat.zero_add _⟩, Nat.le_refl _, fun _ _ => rfl⟩ ⟨hl0.1, hl0.2.1, fun k v hk hv => ?_⟩ (hg ga) k_gl_nil
  · show k_U A1 ≤ k_U A1 - k_U A + 1 + k_U A
    omega
  · show k_T A1 ≤ k_T A1 - k_T A + 6 + k_T A
    omega
  · intro al H locs cells slots pc LS st Y hLS hr
    obtain ⟨yP, yD, yS, yg, ysc, ⟨yc, ys⟩, yn, ya⟩ := Y
    have ec : cells + k_U A = k_U A1 := yc
    have es : slots + k_T A = k_T A1 := ys
    rcases hr with ⟨h1, h2, rfl, hr⟩ | ⟨ty, h1, h2, rfl, h4, h5, -⟩ | ⟨ht1, ht2, rfl, ik, is, j, tx, w0, w3, w4, w6, w9, hj, hw⟩ | ⟨hn1, -⟩
    · exact absurd hr (by decide)
    · exact absurd h5 k_exc_big
    · obtain ⟨-, -, -, -, -, eR, -, -, eCA, eDE, eU, eN⟩ := hEX
      have hmk : LS.size = c.maxLocals := hLS.trans hml.symm
      rw [hcls] at hj hw
      refine k_throwW (A := va_A (k_ws cy al0 A) s.heap.size) (ik := ik) (is := is) (sa := al0 (-10 - (j : Int))) B.exec B.bytes hl9 (by rw [← hcls]; exact findClass_of_methodNamed B.named) (hts1 _ hw) (hts1 _ k_ini_nse) (eR j _ hj) (k_at_holds hts1 eCA eDE) eU eN yS hmk w0 w3 w4 w6 w9 (fun x hx => (hnot x hx).elim) (by show 5 < d; omega) (by show 82 ≤ 50 * d; omega) (by show cells + 1 ≤ k_U A1 - k_U A + 1; omega) (by show slots + 6 ≤ k_T A1 - k_T A + 6; omega) B.notSynchronized ?_ yS.2.2 (by omega) (by omega)
      intro t hvm hz hk
      refine ⟨rfl, ⟨al, ya, fun k q hq => (yP k q hq).kept (hk _ (yP k q hq).lt), yD, yg, ysc⟩, ⟨Nat.le_trans yS.1 hz, fun q h1 h2 => by rw [hk q (Nat.lt_of_lt_of_le h1 yS.1)]; exact yS.2.1 q h1 h2⟩⟩
    · rw [hM] at hn1; cases hn1
  · have hk2 := hls k v hk hv
    have := hl0.2.2 _ (k_en_args al0 as ht 0 k v hk2 hv)
    simpa using this
/-- a method with a table of handlers: its contract -/
def k_AMW (d : Nat) (M : k_M) (hh : List (Nat × Nat × Nat × Nat)) (as : List k_V) (A : k_H) (r : Int) (A1 : k_H) : Prop :=
  k_le A A1 ∧ ∀ (l : Launch), l.stackTraces = false → ∀ (D : va_G) (cy : Nat → ClassId) (al0 : Int → Nat) (sc : Nat × (Nat → Int32)) (sz : Nat),
    Met l M.1 (.codeWith M.1 M.2.1 M.2.2.1 M.2.2.2 hh :: k_GW) { frames := d, cells := k_U A1 - k_U A, slots := k_T A1 - k_T A, locals := 50 * d } (k_Pc as A D cy al0 sc sz) (k_Qc M A D cy al0 sc sz r A1) (k_U A1 - k_U A) (k_T A1 - k_T A) (va_A (k_ws cy al0 A) sz)
set_option maxHeartbeats 4000000 in
theorem k_AMW_of {d : Nat} {M : k_M} {hh : List (Nat × Nat × Nat × Nat)} {as ls : List k_V} {A : k_H} {r : Int} {A1 : k_H} (hnt : k_nothr M = true) (hh0 : k_hh M = some hh) (hp : plainName M.1.cls = true) (ht : ∀ v ∈ as, v.1 < 3) (hl : (k_en as).length ≤ M.2.2.1) (hls : ∀ (k : Nat) (v : k_V), ls[k]? = some v → v.1 < 3 → (k_en as)[k]? = some v) (hg : k_gl (k_N A) as → k_gl (k_N A) ls) (h : k_AW d M 0 ls [] A r A1) : k_AMW d M hh as A r A1 := by
  refine ⟨h.1, fun l hl9 D cy al0 sc sz => ?_⟩
  refine va_MetW (cc := M.2.1) (maxL := M.2.2.1) (ret := M.2.2.2) (hh := hh) hp rfl ?_
  intro p e s m args below meth c s₁ B hml hv
  obtain ⟨rfl, hsz, hP, hD, hK, gh, ga, hsc, hEX⟩ := hv
  subst hsz
  have hts := atoms_spec (ws := .codeWith M.1 M.2.1 M.2.2.1 M.2.2.2 hh :: k_GW) B.pre
  have htab : c.exceptionTable.toList.map (fun h => (h.startPc, h.endPc, h.handlerPc, h.catchType)) = hh := by
    obtain ⟨m9, meth9, c9, hn9, h1, h2, h3, h4, h5, -⟩ := Cond.codeWith_spec (hts _ List.mem_cons_self)
    cases Option.some.inj (hn9.symm.trans B.named)
    cases Option.some.inj (h1.symm.trans B.method)
    cases Option.some.inj (h2.symm.trans (Stand.of_body B).code)
    exact h5
  have hC : k_Cx d M p { frames := d, cells := k_U A1 - k_U A, slots := k_T A1 - k_T A, locals := 50 * d } s m (as.map (k_tv al0)).toArray meth c D cy (va_A (k_ws cy al0 A) s.heap.size) al0 sc :=
    ⟨B.exec, B.bytes, hml, B.returns, findClass_of_methodNamed B.named, fun w hw => hts w (List.mem_cons_of_mem _ hw), B.notSynchronized, (name_of_methodNamed B.named B.method).1, hK, fun q hq => Or.inr hq, Nat.le_refl _, Nat.le_refl _, hEX⟩
  have hlen := k_en_len al0 as ht
  rw [lg_entry_eq]
  have hl0 := lv_entry (as.map (k_tv al0)) (n := M.2.2.1) (by rw [hlen]; exact hl)
  refine h.2 p l e _ s m _ below meth c _ D cy (va_A (k_ws cy al0 A) s.heap.size) al0 sc (k_N A, k_U A, k_T A) al0 s.heap [] 0 0 _ hC ⟨?_, ?_⟩ ⟨hl9, (fun h hh1 => by rw [hh0] at hh1; cases hh1; exact htab), ?_⟩ ⟨hP, hD.self, va_S.rf, gh, hsc, ⟨Nat.zero_add _, Nat.zero_add _⟩, Nat.le_refl _, fun _ _ => rfl⟩ ⟨hl0.1, hl0.2.1, fun k v hk hv => ?_⟩ (hg ga) k_gl_nil
  · show k_U A1 ≤ k_U A1 - k_U A + k_U A
    omega
  · show k_T A1 ≤ k_T A1 - k_T A + k_T A
    omega
  · intro al H locs cells slots pc LS st Y hLS hr
    obtain ⟨yP, yD, yS, yg, ysc, ⟨yc, ys⟩, yn, ya⟩ := Y
    have ec : cells = k_U A1 - k_U A := by
      have : cells + k_U A = k_U A1 := yc
      omega
    have es : slots = k_T A1 - k_T A := by
      have : slots + k_T A = k_T A1 := ys
      omega
    subst ec; subst es
    rcases hr with ⟨h1, h2, rfl, rfl⟩ | ⟨ty, h1, h2, rfl, h4, h5, h6⟩ | ⟨ht1, ht2, -⟩ | ⟨-, h1, h2, rfl, h5⟩
    · refine W.vret B.exec B.bytes (by rw [B.returns, h1]) (fun t ht hW => ⟨⟨al, ya, ?_, by rw [ht]; exact yP, yD, yg, ysc, by rw [show k_rt M = 0 by unfold k_rt; rw [h1]]; exact ⟨by decide, by decide⟩⟩, yS.F ht⟩) yS.2.2 h2 B.notSynchronized
      unfold k_rv; rw [h1]; rfl
    · refine W.zret (ty := ty) B.exec B.bytes (by rw [B.returns, h1]) h4 (fun t ht hW => ⟨⟨al, ya, ?_, by rw [ht]; exact yP, yD, yg, ysc, by rw [h6]; exact h5⟩, yS.F ht⟩) yS.2.2 h2 B.notSynchronized
      unfold k_rv; rw [h6, h1]; rfl
    · rw [hnt] at ht1; cases ht1
    · have hk : k_rt M = 2 := by unfold k_rt; rw [h1]
      refine W.lret B.exec B.bytes (by rw [B.returns, h1]) (fun t ht hW => ⟨⟨al, ya, ?_, by rw [ht]; exact yP, yD, yg, ysc, by rw [hk]; exact h5⟩, yS.F ht⟩) yS.2.2 h2 B.notSynchronized
      unfold k_rv; rw [hk, h1]; rfl
  · have hk2 := hls k v hk hv
    have := hl0.2.2 _ (k_en_args al0 as ht 0 k v hk2 hv)
    simpa using this
