/-! copying, calls -/
theorem k_ac1 : Cond.native arraycopyName ∈ k_GW := k_gt 448 (by decide +kernel) (by decide +kernel)
theorem k_ac2 : Cond.static arraycopyName ∈ k_GW := k_gt 447 (by decide +kernel) (by decide +kernel)
theorem k_ac3 : Cond.initialized "java/lang/System" ∈ k_GW := k_gt 13 (by decide +kernel) (by decide +kernel)
theorem k_oi1 : Cond.instanceMethod Lib.objectInit ∈ k_GW := k_gt 29 (by decide +kernel) (by decide +kernel)
theorem k_oi2 : Cond.code Lib.objectInit ⟨#[0xb1]⟩ 1 none ∈ k_GW := k_gt 30 (by decide +kernel) (by decide +kernel)
section
variable {d : Nat} {M : k_M} {pc : Nat} {ls st : List k_V} {A : k_H} {r : Int} {A' : k_H}
theorem k_objInit {i : Nat} {a : Int} (hd : decode M.2.1 pc = .ok (.invokespecial i, 3)) (hw : Cond.methodLink M.1.cls i Lib.objectInit ∈ k_GW) (h1 : 1 ≤ d) (ha : 0 ≤ a) (hs : k_sw st ≤ 8) (k : k_AW d M (pc + 3) ls st A r A') : k_AW d M pc ls ((1, a) :: st) A r A' :=
  ⟨k.1, fun p l e R s m args below meth c Q D cy A0 al0 sc ob al H locs cells slots LS C G F Y L gl gs => by
    rw [List.map_cons, k_ref ha]
    have hR1 := C.2.2.2.2.2.2.2.2.2.2.1
    have hR2 := C.2.2.2.2.2.2.2.2.2.2.2.1
    refine W.objInit C.1 C.2.1 C.2.2.2.2.1 (C.2.2.2.2.2.1 _ hw) (C.2.2.2.2.2.1 _ k_oi1) (C.2.2.2.2.2.1 _ k_oi2) rfl (by rw [C.2.2.1]; exact L.1) rfl hd (by omega) ?_ ?_
    · have := k_sw_ok al st
      show 2 * 0 + _ + 12 ≤ _
      omega
    · exact k.2 p l e R s m args below meth c Q D cy A0 al0 sc ob al H locs cells slots LS C G F Y L gl (k_gl_cons.mp gs).2⟩
set_option maxHeartbeats 1000000 in
theorem k_copy {i : Nat} {a0 sp a dp n : Int} (hd : decode M.2.1 pc = .ok (.invokestatic i, 3)) (hw : Cond.methodLink M.1.cls i arraycopyName ∈ k_GW) (hd1 : 1 ≤ d) (hs : k_sw st ≤ 8) (h0 : k_isR A a0 21) (h1 : k_isR A a 21) (g0 : 0 ≤ sp) (g1 : 0 ≤ dp) (g2 : 0 ≤ n) (g3 : sp + n ≤ (k_kd A a0).2) (g4 : dp + n ≤ (k_kd A a).2) (k : k_AW d M (pc + 3) ls st (k_cp A a0 sp a dp n) r A') : k_AW d M pc ls ((0, n) :: (0, dp) :: (1, a) :: (0, sp) :: (1, a0) :: st) A r A' :=
  ⟨k.1, fun p l e R s m args below meth c Q D cy A0 al0 sc ob al H locs cells slots LS C G F Y L gl gs => by
    obtain ⟨x0, x1, x2⟩ := h0
    obtain ⟨y0, y1, y2⟩ := h1
    have s1 := k_gl_cons.mp gs
    have s2 := k_gl_cons.mp s1.2
    have s3 := k_gl_cons.mp s2.2
    have s4 := k_gl_cons.mp s3.2
    have s5 := k_gl_cons.mp s4.2
    have en := k_i0 s1.1
    have ed := k_i0 s2.1
    have es := k_i0 s4.1
    have cn : (Int32.ofInt n).toNatClampNeg = n.toNat := by rw [← Int32.toNat_toInt, en]
    have cd : (Int32.ofInt dp).toNatClampNeg = dp.toNat := by rw [← Int32.toNat_toInt, ed]
    have cs : (Int32.ofInt sp).toNatClampNeg = sp.toNat := by rw [← Int32.toNat_toInt, es]
    have hR1 := C.2.2.2.2.2.2.2.2.2.2.1
    have hR2 := C.2.2.2.2.2.2.2.2.2.2.2.1
    rw [List.map_cons, List.map_cons, List.map_cons, List.map_cons, List.map_cons, k_ref x0, k_ref y0]
    refine va_copyi (D := D) (H0 := s.heap) (ty := .int) C.1 C.2.1 (by rw [C.2.2.1]; exact L.1.symm) C.2.2.2.2.1 (C.2.2.2.2.2.1 _ hw) (C.2.2.2.2.2.1 _ k_ac1) (C.2.2.2.2.2.1 _ k_ac2) (C.2.2.2.2.2.1 _ k_ac3) C.2.2.2.2.2.2.2.2.1 Y.1 Y.2.1 Y.2.2.1 a0.toNat a.toNat 1 1 ((k_ws_at x0 x1).trans (by rw [k_cell_i x2 (by decide) (by decide)])) ((k_ws_at y0 y1).trans (by rw [k_cell_i y2 (by decide) (by decide)])) rfl rfl rfl ?_ ?_ ?_ ?_ ?_ (fun _ _ => rfl) (by omega) ?_ hd (fun H1 locs1 hP hD hS => ?_)
    · show ¬ Int32.ofInt sp < 0
      rw [Int32.lt_iff_toInt_lt, es, Int32.toInt_zero]; omega
    · show ¬ Int32.ofInt dp < 0
      rw [Int32.lt_iff_toInt_lt, ed, Int32.toInt_zero]; omega
    · show ¬ Int32.ofInt n < 0
      rw [Int32.lt_iff_toInt_lt, en, Int32.toInt_zero]; omega
    · show (Int32.ofInt sp).toNatClampNeg + (Int32.ofInt n).toNatClampNeg ≤ _
      rw [cs, cn]; omega
    · show (Int32.ofInt dp).toNatClampNeg + (Int32.ofInt n).toNatClampNeg ≤ _
      rw [cd, cn]; omega
    · have := k_sw_ok al st
      have e9 : nativeFrameWords "java/lang/System" "arraycopy" 5 = 7 := by decide +kernel
      rw [e9]
      omega
    · have hu : va_cpy (fun (j : Nat) => Int32.ofInt (k_rd A a0 j)) (fun (j : Nat) => Int32.ofInt (k_rd A a j)) (Int32.ofInt sp).toNatClampNeg (Int32.ofInt dp).toNatClampNeg (Int32.ofInt n).toNatClampNeg = fun (j : Nat) => Int32.ofInt (if dp ≤ (j : Int) ∧ (j : Int) < dp + n then k_rd A a0 (sp + ((j : Int) - dp)) else k_rd A a j) := by
        rw [cs, cd, cn]
        funext j
        unfold va_cpy
        by_cases h : dp ≤ (j : Int) ∧ (j : Int) < dp + n
        · have h2 : dp.toNat ≤ j ∧ j < dp.toNat + n.toNat := by omega
          rw [if_pos h, if_pos h2]
          have e : ((sp.toNat + (j - dp.toNat) : Nat) : Int) = sp + ((j : Int) - dp) := by omega
          show Int32.ofInt (k_rd A a0 ((sp.toNat + (j - dp.toNat) : Nat) : Int)) = _
          rw [e]
        · have h2 : ¬ (dp.toNat ≤ j ∧ j < dp.toNat + n.toNat) := by omega
          rw [if_neg h, if_neg h2]
      have hw2 : ((al a, .inl (cy 21, (k_kd A a).2, .inl (va_cpy (fun (j : Nat) => Int32.ofInt (k_rd A a0 j)) (fun (j : Nat) => Int32.ofInt (k_rd A a j)) (Int32.ofInt sp).toNatClampNeg (Int32.ofInt dp).toNatClampNeg (Int32.ofInt n).toNatClampNeg))) : Nat × va_E) = (al a, k_cell cy al (k_kd A a) (fun j => if dp ≤ j ∧ j < dp + n then k_rd A a0 (sp + (j - dp)) else k_rd A a j)) := by
        rw [k_cell_i y2 (by decide) (by decide), hu]
      rw [hw2, ← k_ws_cp y0] at hP hD
      obtain ⟨-, -, -, yg, ysc, yc, yn, ya⟩ := Y
      refine k.2 p l e R s m args below meth c Q D cy A0 al0 sc ob al H1 locs1 cells slots LS C G F ⟨hP, hD, hS, fun b j hb0 hb1 => ?_, ⟨ysc.1, fun j hj => ?_⟩, yc, yn, ya⟩ L gl s5.2
      · show k_gv (k_N A) (k_etag (k_kd A b).1 j, if b = a ∧ dp ≤ j ∧ j < dp + n then k_rd A a0 (sp + (j - dp)) else k_rd A b j)
        split
        · rename_i hh
          have g9 := yg a0 (sp + (j - dp)) x0 x1
          rw [x2] at g9
          rw [hh.1, y2]
          exact g9
        · exact yg b j hb0 hb1
      · show (if (-2 : Int) = a ∧ dp ≤ (j : Int) ∧ (j : Int) < dp + n then _ else k_rd A (-2) j) = _
        rw [if_neg (by omega)]
        exact ysc.2 j hj⟩
end
/-- what a call leaves on the stack -/
def k_ps (M : k_M) (r : Int) : List k_V := match M.2.2.2 with
  | none => []
  | some _ => [(k_rt M, r)]
set_option maxHeartbeats 1000000 in
/-- behind a call -/
theorem k_after {d : Nat} {M M1 : k_M} {pc : Nat} {ls st st1 : List k_V} {A A1 : k_H} {r r1 : Int} {A' : k_H} {p : Program} {l : Launch} {e : Env} {R : Room} {s : State} {m : MethodId} {args : Array Value} {below : List Frame} {meth : Method} {c : Code} {Q : State → Prop} {D : va_G} {cy : Nat → ClassId} {A0 : Nat → Prop} {al0 : Int → Nat} {sc : Nat × (Nat → Int32)} {ob : Nat × Nat × Nat} {al : Int → Nat} {H : Heap} {locs : List Loc} {cells slots : Nat} {LS : Array Slot} {st0 : List Value} {vs : Array Value}
    (hle : k_le A A1) (hst : k_ps M1 r1 ++ st = st1) (k : k_AW d M (pc + 3) ls st1 A1 r A') (C : k_Cx d M p R s m args meth c D cy A0 al0 sc) (G : k_Rm R ob A') (F : k_Fin M p l e R s m args below meth c Q D cy A0 al0 sc ob r A') (Y : k_Dy s D cy A0 al0 sc ob al A H locs cells slots) (L : k_lo al M.2.2.1 ls LS) (gl : k_gl (k_N A) ls) (gs : k_gl (k_N A) st)
    (hr : va_Run p l e R s m args below meth c H locs cells slots (k_U A1 - k_U A) (k_T A1 - k_T A) (F0 m pc LS st0) (st.map (k_tv al)) (k_Qc M1 A D cy al sc H.size r1 A1 vs) (va_A (k_ws cy al A) H.size)) : W p l e R s m args below meth c H locs cells slots Q (F0 m pc LS st0) := by
  intro T hT X
  obtain ⟨v, st₀, t, T', L', h0, X', hL, e1, e2, ⟨⟨al1, ha1, hv, hP1, hD1, g1, sc1, gr1⟩, hz, hk⟩, stp⟩ := hr T hT X
  obtain ⟨yP, yD, yS, yg, ysc, ⟨yc, ys⟩, yn, ya⟩ := Y
  have hfree : ∀ q, va_A (k_ws cy al A) H.size q → A0 q := by
    intro q hq
    rcases hq with ⟨i, w, hi⟩ | hq
    · exact yD.2 i _ hi
    · exact C.2.2.2.2.2.2.2.2.2.1 q (Nat.le_trans yS.1 hq)
  rw [h0] at hz hk
  have hv : v = k_rv M1 r1 := by cases hv; rfl
  have hstk : v.toList ++ st.map (k_tv al) = st1.map (k_tv al1) := by
    rw [← hst, List.map_append, k_st_al2 ha1 gs, hv]
    have ek : ∀ b1 b2 : Int → Nat, k_tv b1 (k_rt M1, r1) = k_tv b2 (k_rt M1, r1) := fun b1 b2 => by unfold k_rt; split <;> rfl
    unfold k_rv k_ps
    rw [ek _ al1]
    cases M1.2.2.2 <;> rfl
  have w := k.2 p l e R s m args below meth c Q D cy A0 al0 sc ob al1 T'.heap (locs ++ L') (cells + (k_U A1 - k_U A)) (slots + (k_T A1 - k_T A)) LS C G F
    ⟨by rw [e1]; exact hP1, hD1.weaken (fun _ q _ h => hfree q.1 h), ⟨Nat.le_trans yS.1 (by rw [e1]; exact hz), fun q h1 h2 => by rw [e1, hk q (Nat.lt_of_lt_of_le h1 yS.1) (fun z => h2 (hfree q z))]; exact yS.2.1 q h1 h2, fun q hq => by
      rcases List.mem_append.mp hq with h | h
      · exact yS.2.2 q h
      · exact hfree _ (hL q h)⟩, g1, sc1, ⟨by have := hle.2.1; omega, by have := hle.2.2; omega⟩, Nat.le_trans yn hle.1, fun a ha => by rw [ha1 a (by omega)]; exact ya a ha⟩
    (k_lo_al L ha1 gl) (k_gl_mono hle.1 gl) (by
      rw [← hst]
      refine k_gl_app.mpr ⟨?_, k_gl_mono hle.1 gs⟩
      unfold k_ps
      cases M1.2.2.2 with
      | none => exact k_gl_nil
      | some _ => exact k_gl_cons.mpr ⟨k_gv_mono (Nat.zero_le _) gr1, k_gl_nil⟩) T' rfl X'
  obtain ⟨t2, a1, b1⟩ := w
  refine ⟨t2, stp t2 ?_, b1⟩
  show Steps p.tables e below (T'.setTop { F0 m pc LS st0 with pc := pc + 3, stack := v.toList ++ st.map (k_tv al) }) t2
  rw [hstk]
  exact a1
/-- a call's words -/
def k_CB (M1 : k_M) (n : Nat) : Prop := Cond.code M1.1 M1.2.1 M1.2.2.1 M1.2.2.2 ∈ k_GW ∧ Cond.initialized M1.1.cls ∈ k_GW ∧ (M1.1.cls ≠ "java/lang/invoke/MethodHandle" ∧ M1.1.cls ≠ "java/lang/invoke/VarHandle") ∧ (parseMethodDescriptor M1.1.desc).map (fun d => d.parameters.length) = some n ∧ M1.2.2.1 ≤ 31
theorem k_pay {s : State} {args : Array Value} (hts : ∀ w ∈ k_GW, w.before args s = true) {M1 : k_M} {n : Nat} (hb : k_CB M1 n) : ∀ w ∈ (Cond.code M1.1 M1.2.1 M1.2.2.1 M1.2.2.2 :: k_GW), ∀ (a' : Array Value) (U : State), s.WarmedH U.vm → w.before a' U = true := by
  intro w hw a' U hW
  have hw : w ∈ k_GW := by
    rcases List.mem_cons.mp hw with h | h
    · rw [h]; exact hb.1
    · exact h
  exact word_at hW (good_of_word (List.mem_filter.mp hw).2) (hts w hw)
theorem k_prm {M1 : k_M} {n : Nat} (hb : k_CB M1 n) : ∀ sig, parseMethodDescriptor M1.1.desc = some sig → n = sig.parameters.length := by
  intro sig h
  have h2 := hb.2.2.2.1
  rw [h] at h2
  exact (Option.some.inj h2).symm
theorem k_blind {as : List k_V} {A : k_H} {D : va_G} {cy : Nat → ClassId} {al0 : Int → Nat} {sc : Nat × (Nat → Int32)} {sz : Nat} : FrameBlind (k_Pc as A D cy al0 sc sz) := by
  intro a U g mk h
  obtain ⟨h1, h2, h3, h4, h5, h6, h7, h8, h9⟩ := h
  exact ⟨h1, h2, h3, h4, va_K.moved (u := U) (U := U.calling g mk a) (Vm.Alike.refl U.vm) h5, h6, h7, h8, h9.calling⟩
theorem k_entry {d : Nat} {M : k_M} {p : Program} {R : Room} {s : State} {m : MethodId} {args : Array Value} {meth : Method} {c : Code} {D : va_G} {cy : Nat → ClassId} {A0 : Nat → Prop} {al0 : Int → Nat} {sc : Nat × (Nat → Int32)} {ob : Nat × Nat × Nat} {al : Int → Nat} {A : k_H} {H : Heap} {locs : List Loc} {cells slots : Nat} {as : List k_V}
    (C : k_Cx d M p R s m args meth c D cy A0 al0 sc) (Y : k_Dy s D cy A0 al0 sc ob al A H locs cells slots) (ga : k_gl (k_N A) as) : ∀ U : State, U.heap = H → s.WarmedH U.vm → k_Pc as A D cy al sc H.size (as.map (k_tv al)).toArray U := by
  intro U hU hW
  obtain ⟨yP, yD, yS, yg, ysc, ⟨yc, ys⟩, yn, ya⟩ := Y
  have hfree : ∀ q, va_A (k_ws cy al A) H.size q → A0 q := by
    intro q hq
    rcases hq with ⟨i, w, hi⟩ | hq
    · exact yD.2 i _ hi
    · exact C.2.2.2.2.2.2.2.2.2.1 q (Nat.le_trans yS.1 hq)
  exact ⟨rfl, by rw [hU], by rw [hU]; exact yP, yD.weaken (fun _ _ _ _ => trivial), va_K.moved hW.alike C.2.2.2.2.2.2.2.2.1, yg, ga, ysc, C.2.2.2.2.2.2.2.2.2.2.2.2.move (fun a ha => ya a (by omega)) yS hU hW hfree⟩
section
variable {d d1 : Nat} {M M1 : k_M} {pc : Nat} {ls st st1 : List k_V} {A A1 : k_H} {r r1 : Int} {A' : k_H}
set_option maxHeartbeats 1000000 in
theorem k_callV {i n : Nat} {ci : Nat} {a : Int} {as : List k_V} {Tt : u_T} {Nn : Nat} (hd : decode M.2.1 pc = .ok (.invokevirtual i, 3)) (hb : k_CB M1 n) (hl : Cond.methodLink M.1.cls i M1.1 ∈ k_GW) (hi : Cond.instanceMethod M1.1 ∈ k_GW) (hse : Cond.selects M1.1.cls M1.1 M1.1 ∈ k_GW) (hc : vwCl[ci]? = some (M1.1.cls, Tt, Nn)) (hci : ci < 20) (ha : k_isO A a ci) (hdep : d1 + 1 ≤ d) (hn : as.length = n) (hs : k_sw st ≤ 8) (hA : k_AM d1 M1 ((1, a) :: as) A r1 A1) (hst : k_ps M1 r1 ++ st = st1) (k : k_AW d M (pc + 3) ls st1 A1 r A') : k_AW d M pc ls (as.reverse ++ (1, a) :: st) A r A' :=
  ⟨k_le_tr hA.1 k.1, fun p l e R s m args below meth c Q D cy A0 al0 sc ob al H locs cells slots LS C G F Y L gl gs => by
    have hU : cells + ob.2.1 = k_U A := Y.2.2.2.2.2.1.1
    have hT : slots + ob.2.2 = k_T A := Y.2.2.2.2.2.1.2
    have kU := k.1.2.1
    have kT := k.1.2.2
    have aU := hA.1.2.1
    have aT := hA.1.2.2
    have gU : k_U A' ≤ R.cells + ob.2.1 := G.1
    have gT : k_T A' ≤ R.slots + ob.2.2 := G.2
    have hR1 := C.2.2.2.2.2.2.2.2.2.2.1
    have hR2 := C.2.2.2.2.2.2.2.2.2.2.2.1
    have hm31 := hb.2.2.2.2
    have hsum := k_sw_ok al st
    have hts := C.2.2.2.2.2.1
    have ha0 := ha.1
    have gs1 : k_gl (k_N A) as.reverse ∧ k_gl (k_N A) ((1, a) :: st) := k_gl_app.mp gs
    have gst := (k_gl_cons.mp gs1.2).2
    have gas := k_gl_cons.mpr ⟨(k_gl_cons.mp gs1.2).1, k_gl_rev.mp gs1.1⟩
    have estk : ((as.reverse ++ (1, a) :: st).map (k_tv al)) = (as.map (k_tv al)).reverse ++ .ref (al a) :: st.map (k_tv al) := by rw [List.map_append, List.map_cons, List.map_reverse, k_ref ha0]
    have eargs : (((1, a) :: as).map (k_tv al)).toArray = (Value.ref (al a) :: as.map (k_tv al)).toArray := by rw [List.map_cons, k_ref ha0]
    have hent := k_entry (as := (1, a) :: as) C Y gas
    rw [eargs] at hent
    rw [estk]
    have hfr : d1 + 1 ≤ R.frames := by omega
    have hlo : 8 + (M1.2.2.1 + 11) + 50 * d1 ≤ R.locals := by omega
    have hce : cells + (k_U A1 - k_U A) ≤ R.cells := by omega
    have hsl : slots + (k_T A1 - k_T A) ≤ R.slots := by omega
    exact k_after hA.1 hst k C G F Y L gl gst (va_runV (As := as.map (k_tv al)) (rest := st.map (k_tv al)) ⟨C.1, C.2.1, C.2.2.1, C.2.2.2.2.1, hts⟩ (hA.2 l F.1 D cy al sc H.size) (C := M1.1.cls) ⟨⟨rfl, rfl, hfr, hlo, k_pay hts hb, List.mem_cons_self, hts _ hb.1, hts _ hb.2.1, hb.2.2.1, k_prm hb, hts _ hl⟩, hts _ hi, hts _ hse⟩ ⟨k_blind, va_recv C.2.2.2.2.2.2.2.2.1 Y.1 hc ((k_ws_at ha.1 ha.2.1).trans (by rw [k_cell_o ha.2.2 hci])), hent⟩ rfl (by rw [List.length_map]; exact hn) L.1 rfl (by show 2 * 0 + _ ≤ 8; omega) hd ⟨hce, hsl⟩)⟩
set_option maxHeartbeats 1000000 in
theorem k_callI {i n : Nat} {a : Int} {as : List k_V} (hd : decode M.2.1 pc = .ok (.invokespecial i, 3)) (hb : k_CB M1 n) (hl : Cond.methodLink M.1.cls i M1.1 ∈ k_GW) (hi : Cond.instanceMethod M1.1 ∈ k_GW) (hin : M1.1.name = "<init>") (hret : M1.2.2.2 = none) (ha0 : 0 ≤ a) (hdep : d1 + 1 ≤ d) (hn : as.length = n) (hs : k_sw st ≤ 8) (hA : k_AM d1 M1 ((1, a) :: as) A r1 A1) (hst : k_ps M1 r1 ++ st = st1) (k : k_AW d M (pc + 3) ls st1 A1 r A') : k_AW d M pc ls (as.reverse ++ (1, a) :: st) A r A' :=
  ⟨k_le_tr hA.1 k.1, fun p l e R s m args below meth c Q D cy A0 al0 sc ob al H locs cells slots LS C G F Y L gl gs => by
    have hU : cells + ob.2.1 = k_U A := Y.2.2.2.2.2.1.1
    have hT : slots + ob.2.2 = k_T A := Y.2.2.2.2.2.1.2
    have kU := k.1.2.1
    have kT := k.1.2.2
    have aU := hA.1.2.1
    have aT := hA.1.2.2
    have gU : k_U A' ≤ R.cells + ob.2.1 := G.1
    have gT : k_T A' ≤ R.slots + ob.2.2 := G.2
    have hR1 := C.2.2.2.2.2.2.2.2.2.2.1
    have hR2 := C.2.2.2.2.2.2.2.2.2.2.2.1
    have hm31 := hb.2.2.2.2
    have hsum := k_sw_ok al st
    have hts := C.2.2.2.2.2.1
    have gs1 : k_gl (k_N A) as.reverse ∧ k_gl (k_N A) ((1, a) :: st) := k_gl_app.mp gs
    have gst := (k_gl_cons.mp gs1.2).2
    have gas := k_gl_cons.mpr ⟨(k_gl_cons.mp gs1.2).1, k_gl_rev.mp gs1.1⟩
    have estk : ((as.reverse ++ (1, a) :: st).map (k_tv al)) = (as.map (k_tv al)).reverse ++ .ref (al a) :: st.map (k_tv al) := by rw [List.map_append, List.map_cons, List.map_reverse, k_ref ha0]
    have eargs : (((1, a) :: as).map (k_tv al)).toArray = (Value.ref (al a) :: as.map (k_tv al)).toArray := by rw [List.map_cons, k_ref ha0]
    have hent := k_entry (as := (1, a) :: as) C Y gas
    rw [eargs] at hent
    rw [estk]
    have hfr : d1 + 1 ≤ R.frames := by omega
    have hlo : 8 + (M1.2.2.1 + 11) + 50 * d1 ≤ R.locals := by omega
    have hce : cells + (k_U A1 - k_U A) ≤ R.cells := by omega
    have hsl : slots + (k_T A1 - k_T A) ≤ R.slots := by omega
    exact k_after hA.1 hst k C G F Y L gl gst (va_runI (As := as.map (k_tv al)) (rest := st.map (k_tv al)) (bytes := M1.2.1) (maxL := M1.2.2.1) ⟨C.1, C.2.1, C.2.2.1, C.2.2.2.2.1, hts⟩ (hA.2 l F.1 D cy al sc H.size) ⟨⟨rfl, rfl, hfr, hlo, k_pay hts hb, by rw [hret]; exact List.mem_cons_self, by rw [← hret]; exact hts _ hb.1, hts _ hb.2.1, hb.2.2.1, k_prm hb, hts _ hl⟩, hin, hts _ hi⟩ ⟨k_blind, hent⟩ rfl (by rw [List.length_map]; exact hn) L.1 rfl (by show 2 * 0 + _ ≤ 8; omega) hd ⟨hce, hsl⟩)⟩
set_option maxHeartbeats 1000000 in
theorem k_callIN {i n : Nat} {a : Int} {as : List k_V} {host : String} (hd : decode M.2.1 pc = .ok (.invokespecial i, 3)) (hb : k_CB M1 n) (hl : (M.1.cls, i, M1.1, host) ∈ k_NW) (hi : Cond.instanceMethod M1.1 ∈ k_GW) (hin : M1.1.name = "<init>") (hret : M1.2.2.2 = none) (ha0 : 0 ≤ a) (hdep : d1 + 1 ≤ d) (hn : as.length = n) (hs : k_sw st ≤ 8) (hA : k_AM d1 M1 ((1, a) :: as) A r1 A1) (hst : k_ps M1 r1 ++ st = st1) (k : k_AW d M (pc + 3) ls st1 A1 r A') : k_AW d M pc ls (as.reverse ++ (1, a) :: st) A r A' :=
  ⟨k_le_tr hA.1 k.1, fun p l e R s m args below meth c Q D cy A0 al0 sc ob al H locs cells slots LS C G F Y L gl gs => by
    have hU : cells + ob.2.1 = k_U A := Y.2.2.2.2.2.1.1
    have hT : slots + ob.2.2 = k_T A := Y.2.2.2.2.2.1.2
    have kU := k.1.2.1
    have kT := k.1.2.2
    have aU := hA.1.2.1
    have aT := hA.1.2.2
    have gU : k_U A' ≤ R.cells + ob.2.1 := G.1
    have gT : k_T A' ≤ R.slots + ob.2.2 := G.2
    have hR1 := C.2.2.2.2.2.2.2.2.2.2.1
    have hR2 := C.2.2.2.2.2.2.2.2.2.2.2.1
    have hm31 := hb.2.2.2.2
    have hsum := k_sw_ok al st
    have hts := C.2.2.2.2.2.1
    have gs1 : k_gl (k_N A) as.reverse ∧ k_gl (k_N A) ((1, a) :: st) := k_gl_app.mp gs
    have gst := (k_gl_cons.mp gs1.2).2
    have gas := k_gl_cons.mpr ⟨(k_gl_cons.mp gs1.2).1, k_gl_rev.mp gs1.1⟩
    have estk : ((as.reverse ++ (1, a) :: st).map (k_tv al)) = (as.map (k_tv al)).reverse ++ .ref (al a) :: st.map (k_tv al) := by rw [List.map_append, List.map_cons, List.map_reverse, k_ref ha0]
    have eargs : (((1, a) :: as).map (k_tv al)).toArray = (Value.ref (al a) :: as.map (k_tv al)).toArray := by rw [List.map_cons, k_ref ha0]
    have hent := k_entry (as := (1, a) :: as) C Y gas
    rw [eargs] at hent
    rw [estk]
    have hnw : va_Nw (.methodLinkNest M.1.cls i M1.1 host) s := C.2.2.2.2.2.2.2.2.2.2.2.2.1 _ hl
    have hfr : d1 + 1 ≤ R.frames := by omega
    have hlo : 8 + (M1.2.2.1 + 11) + 50 * d1 ≤ R.locals := by omega
    have hce : cells + (k_U A1 - k_U A) ≤ R.cells := by omega
    have hsl : slots + (k_T A1 - k_T A) ≤ R.slots := by omega
    exact k_after hA.1 hst k C G F Y L gl gst (va_runIN (As := as.map (k_tv al)) (rest := st.map (k_tv al)) (bytes := M1.2.1) (maxL := M1.2.2.1) (host := host) ⟨C.1, C.2.1, C.2.2.1, C.2.2.2.2.1, hts⟩ (hA.2 l F.1 D cy al sc H.size) ⟨⟨⟨rfl, rfl, hfr, hlo, k_pay hts hb, by rw [hret]; exact List.mem_cons_self⟩, by rw [← hret]; exact hts _ hb.1, hts _ hb.2.1, hb.2.2.1, k_prm hb, va_Nw.use rfl hnw⟩, hin, hts _ hi⟩ ⟨k_blind, hent⟩ rfl (by rw [List.length_map]; exact hn) L.1 rfl (by show 2 * 0 + _ ≤ 8; omega) hd ⟨hce, hsl⟩)⟩
set_option maxHeartbeats 1000000 in
theorem k_callS {i n : Nat} {as : List k_V} (hd : decode M.2.1 pc = .ok (.invokestatic i, 3)) (hb : k_CB M1 n) (hl : Cond.methodLink M.1.cls i M1.1 ∈ k_GW) (hi : Cond.static M1.1 ∈ k_GW) (hdep : d1 + 1 ≤ d) (hn : as.length = n) (hs : k_sw st ≤ 8) (hA : k_AM d1 M1 (as) A r1 A1) (hst : k_ps M1 r1 ++ st = st1) (k : k_AW d M (pc + 3) ls st1 A1 r A') : k_AW d M pc ls (as.reverse ++ st) A r A' :=
  ⟨k_le_tr hA.1 k.1, fun p l e R s m args below meth c Q D cy A0 al0 sc ob al H locs cells slots LS C G F Y L gl gs => by
    have hU : cells + ob.2.1 = k_U A := Y.2.2.2.2.2.1.1
    have hT : slots + ob.2.2 = k_T A := Y.2.2.2.2.2.1.2
    have kU := k.1.2.1
    have kT := k.1.2.2
    have aU := hA.1.2.1
    have aT := hA.1.2.2
    have gU : k_U A' ≤ R.cells + ob.2.1 := G.1
    have gT : k_T A' ≤ R.slots + ob.2.2 := G.2
    have hR1 := C.2.2.2.2.2.2.2.2.2.2.1
    have hR2 := C.2.2.2.2.2.2.2.2.2.2.2.1
    have hm31 := hb.2.2.2.2
    have hsum := k_sw_ok al st
    have hts := C.2.2.2.2.2.1
    have gs1 : k_gl (k_N A) as.reverse ∧ k_gl (k_N A) st := k_gl_app.mp gs
    have gst := gs1.2
    have gas := k_gl_rev.mp gs1.1
    have estk : ((as.reverse ++ st).map (k_tv al)) = (as.map (k_tv al)).reverse ++ st.map (k_tv al) := by rw [List.map_append, List.map_reverse]
    have hent := k_entry (as := as) C Y gas
    rw [estk]
    have hfr : d1 + 1 ≤ R.frames := by omega
    have hlo : 8 + (M1.2.2.1 + 11) + 50 * d1 ≤ R.locals := by omega
    have hce : cells + (k_U A1 - k_U A) ≤ R.cells := by omega
    have hsl : slots + (k_T A1 - k_T A) ≤ R.slots := by omega
    exact k_after hA.1 hst k C G F Y L gl gst (va_runS (As := as.map (k_tv al)) (rest := st.map (k_tv al)) ⟨C.1, C.2.1, C.2.2.1, C.2.2.2.2.1, hts⟩ (hA.2 l F.1 D cy al sc H.size) ⟨⟨rfl, rfl, hfr, hlo, k_pay hts hb, List.mem_cons_self, hts _ hb.1, hts _ hb.2.1, hb.2.2.1, k_prm hb, hts _ hl⟩, hts _ hi⟩ ⟨k_blind, hent⟩ rfl (by rw [List.length_map]; exact hn) L.1 rfl (by show 2 * 0 + _ ≤ 8; omega) hd ⟨hce, hsl⟩)⟩
set_option maxHeartbeats 1000000 in
theorem k_callSN {i n : Nat} {as : List k_V} {host : String} (hd : decode M.2.1 pc = .ok (.invokestatic i, 3)) (hb : k_CB M1 n) (hl : (M.1.cls, i, M1.1, host) ∈ k_NW) (hi : Cond.static M1.1 ∈ k_GW) (hdep : d1 + 1 ≤ d) (hn : as.length = n) (hs : k_sw st ≤ 8) (hA : k_AM d1 M1 (as) A r1 A1) (hst : k_ps M1 r1 ++ st = st1) (k : k_AW d M (pc + 3) ls st1 A1 r A') : k_AW d M pc ls (as.reverse ++ st) A r A' :=
  ⟨k_le_tr hA.1 k.1, fun p l e R s m args below meth c Q D cy A0 al0 sc ob al H locs cells slots LS C G F Y L gl gs => by
    have hU : cells + ob.2.1 = k_U A := Y.2.2.2.2.2.1.1
    have hT : slots + ob.2.2 = k_T A := Y.2.2.2.2.2.1.2
    have kU := k.1.2.1
    have kT := k.1.2.2
    have aU := hA.1.2.1
    have aT := hA.1.2.2
    have gU : k_U A' ≤ R.cells + ob.2.1 := G.1
    have gT : k_T A' ≤ R.slots + ob.2.2 := G.2
    have hR1 := C.2.2.2.2.2.2.2.2.2.2.1
    have hR2 := C.2.2.2.2.2.2.2.2.2.2.2.1
    have hm31 := hb.2.2.2.2
    have hsum := k_sw_ok al st
    have hts := C.2.2.2.2.2.1
    have gs1 : k_gl (k_N A) as.reverse ∧ k_gl (k_N A) st := k_gl_app.mp gs
    have gst := gs1.2
    have gas := k_gl_rev.mp gs1.1
    have estk : ((as.reverse ++ st).map (k_tv al)) = (as.map (k_tv al)).reverse ++ st.map (k_tv al) := by rw [List.map_append, List.map_reverse]
    have hent := k_entry (as := as) C Y gas
    rw [estk]
    have hnw : va_Nw (.methodLinkNest M.1.cls i M1.1 host) s := C.2.2.2.2.2.2.2.2.2.2.2.2.1 _ hl
    have hfr : d1 + 1 ≤ R.frames := by omega
    have hlo : 8 + (M1.2.2.1 + 11) + 50 * d1 ≤ R.locals := by omega
    have hce : cells + (k_U A1 - k_U A) ≤ R.cells := by omega
    have hsl : slots + (k_T A1 - k_T A) ≤ R.slots := by omega
    exact k_after hA.1 hst k C G F Y L gl gst (va_runSN (As := as.map (k_tv al)) (rest := st.map (k_tv al)) (host := host) ⟨C.1, C.2.1, C.2.2.1, C.2.2.2.2.1, hts⟩ (hA.2 l F.1 D cy al sc H.size) ⟨⟨⟨rfl, rfl, hfr, hlo, k_pay hts hb, List.mem_cons_self⟩, hts _ hb.1, hts _ hb.2.1, hb.2.2.1, k_prm hb, va_Nw.use rfl hnw⟩, hts _ hi, trivial⟩ ⟨k_blind, hent⟩ rfl (by rw [List.length_map]; exact hn) L.1 rfl (by show 2 * 0 + _ ≤ 8; omega) hd ⟨hce, hsl⟩)⟩
end
section
variable {d : Nat} {M : k_M} {pc : Nat} {ls st : List k_V} {A : k_H} {r : Int} {A' : k_H}
theorem k_mi : Cond.initialized "java/lang/Math" ∈ k_GW := k_gt 9 (by decide +kernel) (by decide +kernel)
theorem k_ms_max : Cond.static Lib.Math.max.name ∈ k_GW := k_gt 220 (by decide +kernel) (by decide +kernel)
theorem k_mc_max : Cond.code Lib.Math.max.name Lib.Math.max.code 2 (some .int) ∈ k_GW := k_gt 221 (by decide +kernel) (by decide +kernel)
theorem k_ms_min : Cond.static Lib.Math.min.name ∈ k_GW := k_gt 378 (by decide +kernel) (by decide +kernel)
theorem k_mc_min : Cond.code Lib.Math.min.name Lib.Math.min.code 2 (some .int) ∈ k_GW := k_gt 379 (by decide +kernel) (by decide +kernel)
theorem k_ms_abs : Cond.static Lib.Math.abs.name ∈ k_GW := k_gt 500 (by decide +kernel) (by decide +kernel)
theorem k_mc_abs : Cond.code Lib.Math.abs.name Lib.Math.abs.code 1 (some .int) ∈ k_GW := k_gt 501 (by decide +kernel) (by decide +kernel)
theorem k_mmax {i : Nat} {x y : Int} (hd : decode M.2.1 pc = .ok (.invokestatic i, 3)) (hw : Cond.methodLink M.1.cls i Lib.Math.max.name ∈ k_GW) (h1 : 1 ≤ d) (hs : k_sw st ≤ 8) (k : k_AW d M (pc + 3) ls ((0, max x y) :: st) A r A') : k_AW d M pc ls ((0, y) :: (0, x) :: st) A r A' :=
  ⟨k.1, fun p l e R s m args below meth c Q D cy A0 al0 sc ob al H locs cells slots LS C G F Y L gl gs => by
    have hU : cells + ob.2.1 = k_U A := Y.2.2.2.2.2.1.1
    have hT : slots + ob.2.2 = k_T A := Y.2.2.2.2.2.1.2
    have kU := k.1.2.1
    have kT := k.1.2.2
    have gU : k_U A' ≤ R.cells + ob.2.1 := G.1
    have gT : k_T A' ≤ R.slots + ob.2.2 := G.2
    have hR1 := C.2.2.2.2.2.2.2.2.2.2.1
    have hR2 := C.2.2.2.2.2.2.2.2.2.2.2.1
    have hsum := k_sw_ok al st
    have gy := (k_gl_cons.mp gs).1
    have gx := (k_gl_cons.mp (k_gl_cons.mp gs).2).1
    have ev : Int32.ofInt (max x y) = if Int32.ofInt x < Int32.ofInt y then Int32.ofInt y else Int32.ofInt x := by
      by_cases hc : x < y
      · rw [if_pos ((k_ilt gx gy).mpr hc)]; congr 1; omega
      · rw [if_neg (fun z => hc ((k_ilt gx gy).mp z))]; congr 1; omega
    have w := k.2 p l e R s m args below meth c Q D cy A0 al0 sc ob al H locs cells slots LS C G F Y L gl (k_gl_cons.mpr ⟨by
      have g1 : -2147483648 ≤ x ∧ x < 2147483648 := gx
      have g2 : -2147483648 ≤ y ∧ y < 2147483648 := gy
      show -2147483648 ≤ max x y ∧ max x y < 2147483648
      omega, (k_gl_cons.mp (k_gl_cons.mp gs).2).2⟩)
    rw [List.map_cons, List.map_cons]
    refine va_mmax C.1 C.2.1 (by rw [C.2.2.1]; exact L.1.symm) C.2.2.2.2.1 (C.2.2.2.2.2.1 _ hw) (C.2.2.2.2.2.1 _ k_ms_max) (C.2.2.2.2.2.1 _ k_mi) (C.2.2.2.2.2.1 _ k_mc_max) (by omega) (by omega) (by omega) (by omega) hd ?_
    rw [List.map_cons] at w
    have e2 : k_tv al (0, max x y) = .int (if Int32.ofInt x < Int32.ofInt y then Int32.ofInt y else Int32.ofInt x) := congrArg Value.int ev
    rw [e2] at w
    exact w⟩
theorem k_mmin {i : Nat} {x y : Int} (hd : decode M.2.1 pc = .ok (.invokestatic i, 3)) (hw : Cond.methodLink M.1.cls i Lib.Math.min.name ∈ k_GW) (h1 : 1 ≤ d) (hs : k_sw st ≤ 8) (k : k_AW d M (pc + 3) ls ((0, min x y) :: st) A r A') : k_AW d M pc ls ((0, y) :: (0, x) :: st) A r A' :=
  ⟨k.1, fun p l e R s m args below meth c Q D cy A0 al0 sc ob al H locs cells slots LS C G F Y L gl gs => by
    have hU : cells + ob.2.1 = k_U A := Y.2.2.2.2.2.1.1
    have hT : slots + ob.2.2 = k_T A := Y.2.2.2.2.2.1.2
    have kU := k.1.2.1
    have kT := k.1.2.2
    have gU : k_U A' ≤ R.cells + ob.2.1 := G.1
    have gT : k_T A' ≤ R.slots + ob.2.2 := G.2
    have hR1 := C.2.2.2.2.2.2.2.2.2.2.1
    have hR2 := C.2.2.2.2.2.2.2.2.2.2.2.1
    have hsum := k_sw_ok al st
    have gy := (k_gl_cons.mp gs).1
    have gx := (k_gl_cons.mp (k_gl_cons.mp gs).2).1
    have ev : Int32.ofInt (min x y) = if Int32.ofInt y < Int32.ofInt x then Int32.ofInt y else Int32.ofInt x := by
      by_cases hc : y < x
      · rw [if_pos ((k_ilt gy gx).mpr hc)]; congr 1; omega
      · rw [if_neg (fun z => hc ((k_ilt gy gx).mp z))]; congr 1; omega
    have w := k.2 p l e R s m args below meth c Q D cy A0 al0 sc ob al H locs cells slots LS C G F Y L gl (k_gl_cons.mpr ⟨by
      have g1 : -2147483648 ≤ x ∧ x < 2147483648 := gx
      have g2 : -2147483648 ≤ y ∧ y < 2147483648 := gy
      show -2147483648 ≤ min x y ∧ min x y < 2147483648
      omega, (k_gl_cons.mp (k_gl_cons.mp gs).2).2⟩)
    rw [List.map_cons, List.map_cons]
    refine va_mmin C.1 C.2.1 (by rw [C.2.2.1]; exact L.1.symm) C.2.2.2.2.1 (C.2.2.2.2.2.1 _ hw) (C.2.2.2.2.2.1 _ k_ms_min) (C.2.2.2.2.2.1 _ k_mi) (C.2.2.2.2.2.1 _ k_mc_min) (by omega) (by omega) (by omega) (by omega) hd ?_
    rw [List.map_cons] at w
    have e2 : k_tv al (0, min x y) = .int (if Int32.ofInt y < Int32.ofInt x then Int32.ofInt y else Int32.ofInt x) := congrArg Value.int ev
    rw [e2] at w
    exact w⟩
theorem k_mabs {i : Nat} {x : Int} (hd : decode M.2.1 pc = .ok (.invokestatic i, 3)) (hw : Cond.methodLink M.1.cls i Lib.Math.abs.name ∈ k_GW) (h1 : 1 ≤ d) (hs : k_sw st ≤ 8) (k : k_AW d M (pc + 3) ls ((0, if 0 ≤ x then x else k_wr (-x)) :: st) A r A') : k_AW d M pc ls ((0, x) :: st) A r A' :=
  ⟨k.1, fun p l e R s m args below meth c Q D cy A0 al0 sc ob al H locs cells slots LS C G F Y L gl gs => by
    have hU : cells + ob.2.1 = k_U A := Y.2.2.2.2.2.1.1
    have hT : slots + ob.2.2 = k_T A := Y.2.2.2.2.2.1.2
    have kU := k.1.2.1
    have kT := k.1.2.2
    have gU : k_U A' ≤ R.cells + ob.2.1 := G.1
    have gT : k_T A' ≤ R.slots + ob.2.2 := G.2
    have hR1 := C.2.2.2.2.2.2.2.2.2.2.1
    have hR2 := C.2.2.2.2.2.2.2.2.2.2.2.1
    have hsum := k_sw_ok al st
    have gx := (k_gl_cons.mp gs).1
    have ev : Int32.ofInt (if 0 ≤ x then x else k_wr (-x)) = if 0 ≤ Int32.ofInt x then Int32.ofInt x else 0 - Int32.ofInt x := by
      have hz : (0 : Int32) ≤ Int32.ofInt x ↔ 0 ≤ x := k_ile (x := 0) (k_g00 (k_N A)) gx
      by_cases hc : 0 ≤ x
      · rw [if_pos (hz.mpr hc), if_pos hc]
      · rw [if_neg (fun z => hc (hz.mp z)), if_neg hc, k_of_wr, Int32.ofInt_neg]; simp
    have w := k.2 p l e R s m args below meth c Q D cy A0 al0 sc ob al H locs cells slots LS C G F Y L gl (k_gl_cons.mpr ⟨by
      by_cases hc : 0 ≤ x
      · rw [if_pos hc]; exact gx
      · rw [if_neg hc]; exact k_wr_range _, (k_gl_cons.mp gs).2⟩)
    rw [List.map_cons]
    refine va_mabs C.1 C.2.1 (by rw [C.2.2.1]; exact L.1.symm) C.2.2.2.2.1 (C.2.2.2.2.2.1 _ hw) (C.2.2.2.2.2.1 _ k_ms_abs) (C.2.2.2.2.2.1 _ k_mi) (C.2.2.2.2.2.1 _ k_mc_abs) (by omega) (by omega) (by omega) (by omega) hd ?_
    rw [List.map_cons] at w
    have e2 : k_tv al (0, if 0 ≤ x then x else k_wr (-x)) = .int (if 0 ≤ Int32.ofInt x then Int32.ofInt x else 0 - Int32.ofInt x) := congrArg Value.int ev
    rw [e2] at w
    exact w⟩
end
