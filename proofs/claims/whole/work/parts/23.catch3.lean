theorem k_lo_set3 {al : Int → Nat} {nL : Nat} {ls : List k_V} {LS : Array Slot} {i : Nat} {v : Value} (hn : k_nol ls i = true) (h : lv_has LS nL ((i, v) :: (k_lvl al ls).filter (fun q => !(q.1 == i) && !(q.1 + 1 == i && q.2.category == 2)))) : k_lo al nL (ls.set i (3, 0)) LS := by
  refine ⟨h.1, h.2.1, fun k w hk hw => ?_⟩
  rw [List.getElem?_set] at hk
  by_cases hi : i = k
  · rw [if_pos hi] at hk
    split at hk
    · cases hk; exact absurd hw (by decide)
    · cases hk
  · rw [if_neg hi] at hk
    refine h.2.2 (k, k_tv al w) (List.mem_cons_of_mem _ (List.mem_filter.mpr ⟨k_lvl_mem hk hw, ?_⟩))
    have h1 : (k == i) = false := by simp; omega
    have h2 : (k + 1 == i && (k_tv al w).category == 2) = false := by
      by_cases hj : k + 1 = i
      · subst hj
        have h3 : (ls.getD k (3, 0)).1 ≠ 2 := by simpa [k_nol] using hn
        rw [List.getD_eq_getElem?_getD, hk] at h3
        have h4 : w.1 ≠ 2 := h3
        rw [k_cat al w hw, if_neg h4]
        simp
      · simp [hj]
    show (!(k == i) && !(k + 1 == i && (k_tv al w).category == 2)) = true
    rw [h1, h2]; rfl
def k_isSt (M : k_M) (h j len : Nat) : Prop := (∃ f : Fin 4, (f : Nat) = j ∧ decode M.2.1 h = .ok (.astore_n f, 1) ∧ len = 1) ∨ (decode M.2.1 h = .ok (.astore j, 2) ∧ len = 2)
theorem k_nse_cast : (k_NSE, k_NSE) ∈ k_CA := by decide +kernel
section
variable {d d1 : Nat} {M M1 : k_M} {pc : Nat} {ls st : List k_V} {A A1 : k_H} {r : Int} {A' : k_H}
set_option maxHeartbeats 4000000 in
theorem k_callX {i n j h len ci xs xe ct : Nat} {a : Int} {as : List k_V} {Tt : u_T} {Nn : Nat} (hd : decode M.2.1 pc = .ok (.invokevirtual i, 3)) (hb : k_CB M1 n) (hl : Cond.methodLink M.1.cls i M1.1 ∈ k_GW) (hi : Cond.instanceMethod M1.1 ∈ k_GW) (hse : Cond.selects M1.1.cls M1.1 M1.1 ∈ k_GW) (hc : vwCl[ci]? = some (M1.1.cls, Tt, Nn)) (hci : ci < 20) (ha : k_isO A a ci) (hdep : d1 + 1 ≤ d) (hn : as.length = n) (hs : k_sw st ≤ 8)
    (hth : k_ATh d1 M1 ((1, a) :: as) A A1) (htab : k_hh M = some [(xs, xe, h, ct)]) (hcov : xs ≤ pc ∧ pc < xe) (hct : ct ≠ 0) (hcl : Cond.classLink M.1.cls ct k_NSE ∈ k_GW) (hst : k_isSt M h j len) (hj : j < M.2.2.1) (hnol : k_nol ls j = true)
    (k : k_AW d M (h + len) (ls.set j (3, 0)) [] (k_gc A1) r A') : k_AW d M pc ls (as.reverse ++ (1, a) :: st) A r A' :=
  ⟨⟨Nat.le_trans hth.1.1 k.1.1, Nat.le_trans hth.1.2.1 (Nat.le_trans (Nat.le_succ _) k.1.2.1), Nat.le_trans hth.1.2.2 (Nat.le_trans (Nat.le_add_right _ 6) k.1.2.2)⟩, fun p l e R s m args below meth c Q D cy A0 al0 sc ob al H locs cells slots LS C G F Y L gl gs => by
    have hU : cells + ob.2.1 = k_U A := Y.2.2.2.2.2.1.1
    have hT : slots + ob.2.2 = k_T A := Y.2.2.2.2.2.1.2
    have kU : k_U A1 + 1 ≤ k_U A' := k.1.2.1
    have kT : k_T A1 + 6 ≤ k_T A' := k.1.2.2
    have aU := hth.1.2.1
    have aT := hth.1.2.2
    have gU : k_U A' ≤ R.cells + ob.2.1 := G.1
    have gT : k_T A' ≤ R.slots + ob.2.2 := G.2
    have hR1 := C.2.2.2.2.2.2.2.2.2.2.1
    have hR2 := C.2.2.2.2.2.2.2.2.2.2.2.1
    have hm31 := hb.2.2.2.2
    have hsum := k_sw_ok al st
    have hts := C.2.2.2.2.2.1
    have ha0 := ha.1
    have gs1 : k_gl (k_N A) as.reverse ∧ k_gl (k_N A) ((1, a) :: st) := k_gl_app.mp gs
    have gas := k_gl_cons.mpr ⟨(k_gl_cons.mp gs1.2).1, k_gl_rev.mp gs1.1⟩
    have estk : ((as.reverse ++ (1, a) :: st).map (k_tv al)) = (as.map (k_tv al)).reverse ++ .ref (al a) :: st.map (k_tv al) := by rw [List.map_append, List.map_cons, List.map_reverse, k_ref ha0]
    have eargs : (((1, a) :: as).map (k_tv al)).toArray = (Value.ref (al a) :: as.map (k_tv al)).toArray := by rw [List.map_cons, k_ref ha0]
    have hent := k_entry (as := (1, a) :: as) C Y gas
    rw [eargs] at hent
    rw [estk]
    have hfr : d1 + 1 ≤ R.frames := by omega
    have hlo : 8 + (M1.2.2.1 + 11) + 50 * d1 ≤ R.locals := by omega
    have hce : cells + (k_U A1 - k_U A + 1) ≤ R.cells := by omega
    have hsl : slots + (k_T A1 - k_T A + 6) ≤ R.slots := by omega
    have hr := vx_runV (locs := locs) (below := below) (e := e) (meth := meth) (As := as.map (k_tv al)) (rest := st.map (k_tv al)) (g := F0 m pc LS ((as.map (k_tv al)).reverse ++ .ref (al a) :: st.map (k_tv al))) ⟨C.1, C.2.1, C.2.2.1, C.2.2.2.2.1, hts⟩ (hth.2 l F.1 D cy al sc H.size) (C := M1.1.cls) ⟨⟨rfl, rfl, hfr, hlo, k_pay hts hb, List.mem_cons_self, hts _ hb.1, hts _ hb.2.1, hb.2.2.1, k_prm hb, hts _ hl⟩, hts _ hi, hts _ hse⟩ ⟨k_blind, va_recv C.2.2.2.2.2.2.2.2.1 Y.1 hc ((k_ws_at ha.1 ha.2.1).trans (by rw [k_cell_o ha.2.2 hci])), hent⟩ rfl (by rw [List.length_map]; exact hn) L.1 rfl (by show 2 * 0 + _ ≤ 8; omega) hd ⟨hce, hsl⟩
    obtain ⟨-, -, -, -, -, -, -, -, eCA, -⟩ := C.2.2.2.2.2.2.2.2.2.2.2.2
    obtain ⟨yP, yD, yS, yg, ysc, ⟨yc, ys⟩, yn, ya⟩ := Y
    have hfree : ∀ q, va_A (k_ws cy al A) H.size q → A0 q := by
      intro q hq
      rcases hq with ⟨i, w, hi⟩ | hq
      · exact yD.2 i _ hi
      · exact C.2.2.2.2.2.2.2.2.2.1 q (Nat.le_trans yS.1 hq)
    intro T hT X
    rcases hr T hT X with ⟨v, st₀, t, T', L', h0, X', hL, e1, e2, hq, stp⟩ | ⟨q, st₀, t, T', L', E, cE, h0, X', hL, e1, e2, ⟨hE, ⟨al1, ha1, hP1, hD1, g1, sc1⟩, hz, hk⟩, hce1, hcv, hcf, stp⟩
    · exact hq.elim
    · subst hE
      rw [h0] at hz hk
      have htb := F.2.1 _ htab
      obtain ⟨x, hx⟩ : ∃ x, c.exceptionTable.toList = [x] := by
        cases hT9 : c.exceptionTable.toList with
        | nil => rw [hT9] at htb; cases htb
        | cons x l9 =>
          cases l9 with
          | nil => exact ⟨x, rfl⟩
          | cons y l8 => rw [hT9] at htb; cases htb
      rw [hx] at htb
      have hx4 : (x.startPc, x.endPc, x.handlerPc, x.catchType) = (xs, xe, h, ct) := (List.cons.inj htb).1
      have x1 : x.startPc = xs := congrArg (fun z => z.1) hx4
      have x2 : x.endPc = xe := congrArg (fun z => z.2.1) hx4
      have x3 : x.handlerPc = h := congrArg (fun z => z.2.2.1) hx4
      have x4 : x.catchType = ct := congrArg (fun z => z.2.2.2) hx4
      have w : vx_W p l e R s m args below meth c T'.heap (locs ++ L') (cells + (k_U A1 - k_U A + 1)) (slots + (k_T A1 - k_T A + 6)) Q (F0 m pc LS (st.map (k_tv al))) q := by
        refine vx_catch (own := M.1.cls) (name := k_NSE) (E := k_NSE) (ce := cE) C.2.2.2.2.1 [] x [] (by rw [hx]; rfl) (fun z hz => by cases hz) ?_ (by rw [x4]; exact hct) (by rw [x4]; exact hts _ hcl) (va_Nw.use rfl (eCA _ k_nse_cast)) (by rw [e1]; exact hce1) hcv hcf ?_
        · have : covers x pc = (decide (x.startPc ≤ pc) && decide (pc < x.endPc)) := rfl
          rw [this, x1, x2]
          simp [hcov.1, hcov.2]
        · rw [x3]
          have L1 := k_lo_al L ha1 gl
          have fin : ∀ LS' : Array Slot, lv_has LS' M.2.2.1 ((j, .ref q) :: (k_lvl al1 ls).filter (fun q => !(q.1 == j) && !(q.1 + 1 == j && q.2.category == 2))) → W p l e R s m args below meth c T'.heap (locs ++ L') (cells + (k_U A1 - k_U A + 1)) (slots + (k_T A1 - k_T A + 6)) Q (F0 m (h + len) LS' []) := by
            intro LS' hls'
            exact k.2 p l e R s m args below meth c Q D cy A0 al0 sc ob al1 T'.heap (locs ++ L') _ _ LS' C G F
              ⟨by rw [e1]; exact hP1, hD1.weaken (fun _ q _ h => hfree q.1 h), ⟨Nat.le_trans yS.1 (by rw [e1]; exact hz), fun q h1 h2 => by rw [e1, hk q (Nat.lt_of_lt_of_le h1 yS.1) (fun z => h2 (hfree q z))]; exact yS.2.1 q h1 h2, fun q hq => by
                rcases List.mem_append.mp hq with h | h
                · exact yS.2.2 q h
                · exact hfree _ (hL q h)⟩, g1, sc1, ⟨by show cells + (k_U A1 - k_U A + 1) + ob.2.1 = k_U A1 + 1; omega, by show slots + (k_T A1 - k_T A + 6) + ob.2.2 = k_T A1 + 6; omega⟩, Nat.le_trans yn hth.1.1, fun a ha => by rw [ha1 a (by omega)]; exact ya a ha⟩
              (k_lo_set3 hnol hls') (k_gl_set (k_gl_mono hth.1.1 gl) trivial) k_gl_nil
          rcases hst with ⟨f, hf, hdf, hlen⟩ | ⟨hdf, hlen⟩
          · subst hlen
            exact lv_astore_n C.1 C.2.1 hdf hf (k_lvl_has L1) hj rfl fin
          · subst hlen
            exact lv_astore C.1 C.2.1 hdf (k_lvl_has L1) hj rfl fin
      obtain ⟨t2, a1, b1⟩ := w T' rfl X'
      exact ⟨t2, stp.trans a1, b1⟩⟩
end
/-- a call of a method with handlers -/
def k_CBW (M1 : k_M) (hh : List (Nat × Nat × Nat × Nat)) (n : Nat) : Prop := Cond.codeWith M1.1 M1.2.1 M1.2.2.1 M1.2.2.2 hh ∈ k_GW ∧ Cond.initialized M1.1.cls ∈ k_GW ∧ (M1.1.cls ≠ "java/lang/invoke/MethodHandle" ∧ M1.1.cls ≠ "java/lang/invoke/VarHandle") ∧ (parseMethodDescriptor M1.1.desc).map (fun d => d.parameters.length) = some n ∧ M1.2.2.1 ≤ 31
section
variable {d d1 : Nat} {M M1 : k_M} {pc : Nat} {ls st st1 : List k_V} {A A1 : k_H} {r r1 : Int} {A' : k_H}
set_option maxHeartbeats 4000000 in
theorem k_callSW {i n : Nat} {hh : List (Nat × Nat × Nat × Nat)} {as : List k_V} (hd : decode M.2.1 pc = .ok (.invokestatic i, 3)) (hb : k_CBW M1 hh n) (hl : Cond.methodLink M.1.cls i M1.1 ∈ k_GW) (hi : Cond.static M1.1 ∈ k_GW) (hdep : d1 + 1 ≤ d) (hn : as.length = n) (hs : k_sw st ≤ 8) (hA : k_AMW d1 M1 hh as A r1 A1) (hst : k_ps M1 r1 ++ st = st1) (k : k_AW d M (pc + 3) ls st1 A1 r A') : k_AW d M pc ls (as.reverse ++ st) A r A' :=
  ⟨k_le_tr hA.1 k.1, fun p l e R s m args below meth c Q D cy A0 al0 sc ob al H locs cells slots LS C G F Y L gl gs => by
    have hU : cells + ob.2.1 = k_U A := Y.2.2.2.2.2.1.1
    have hT : slots + ob.2.2 = k_T A := Y.2.2.2.2.2.1.2
    have kU := k.1.2.1
    have kT := k.1.2.2
    have aU := hA.1.2.1
    have aT := hA.1.2.2
    have gU : k_U A' ≤ R.cells + ob.2.1 := G.1
    have gT : k_T A' ≤ R.slots + ob.2.2 := G.2
    have hR1 := C.2.2.2.2.2.2.2.2.2.2.1
    have hR2 := C.2.2.2.2.2.2.2.2.2.2.2.1
    have hm31 := hb.2.2.2.2
    have hsum := k_sw_ok al st
    have hts := C.2.2.2.2.2.1
    have gs1 : k_gl (k_N A) as.reverse ∧ k_gl (k_N A) st := k_gl_app.mp gs
    have gst := gs1.2
    have gas := k_gl_rev.mp gs1.1
    have estk : ((as.reverse ++ st).map (k_tv al)) = (as.map (k_tv al)).reverse ++ st.map (k_tv al) := by rw [List.map_append, List.map_reverse]
    have hent := k_entry (as := as) C Y gas
    rw [estk]
    have hfr : d1 + 1 ≤ R.frames := by omega
    have hlo : 8 + (M1.2.2.1 + 11) + 50 * d1 ≤ R.locals := by omega
    have hce : cells + (k_U A1 - k_U A) ≤ R.cells := by omega
    have hsl : slots + (k_T A1 - k_T A) ≤ R.slots := by omega
    have hpay : ∀ w ∈ (Cond.codeWith M1.1 M1.2.1 M1.2.2.1 M1.2.2.2 hh :: k_GW), ∀ (a' : Array Value) (U : State), s.WarmedH U.vm → w.before a' U = true := by
      intro w hw a' U hW
      have hw : w ∈ k_GW := by
        rcases List.mem_cons.mp hw with h | h
        · rw [h]; exact hb.1
        · exact h
      exact word_at hW (good_of_word (List.mem_filter.mp hw).2) (hts w hw)
    have hprm : ∀ sig, parseMethodDescriptor M1.1.desc = some sig → n = sig.parameters.length := by
      intro sig h
      have h2 := hb.2.2.2.1
      rw [h] at h2
      exact (Option.some.inj h2).symm
    exact k_after hA.1 hst k C G F Y L gl gst (vx_runSW (As := as.map (k_tv al)) (rest := st.map (k_tv al)) ⟨C.1, C.2.1, C.2.2.1, C.2.2.2.2.1, hts⟩ (hA.2 l F.1 D cy al sc H.size) ⟨⟨rfl, rfl, hfr, hlo, hpay, List.mem_cons_self⟩, hts _ hb.1, hts _ hb.2.1, hb.2.2.1, hprm, hts _ hl, hts _ hi⟩ ⟨k_blind, hent⟩ rfl (by rw [List.length_map]; exact hn) L.1 rfl (by show 2 * 0 + _ ≤ 8; omega) hd ⟨hce, hsl⟩)⟩
end
