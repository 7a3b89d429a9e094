/-! the texts: String's own methods over the literals -/
abbrev k_isS (a : Int) : Prop := -20 ≤ a ∧ a ≤ -10
abbrev k_isSw (v : Int) : Prop := -50 ≤ v ∧ v ≤ -40
def k_svl (v : Int) : Int := ((k_sl.getD (-40 - v).toNat 0 : Nat) : Int)
def k_sbv (v i : Int) : Int := ((k_sb.getD (-40 - v).toNat []).getD i.toNat 0).toInt
abbrev k_isSv (v i : Int) : Prop := k_isSw v ∧ 0 ≤ i ∧ i < k_svl v
abbrev k_isC (x : Int) : Prop := 0 ≤ x ∧ x < 65536
theorem k_nc {x : Int} (h : k_isC x) : narrow .char (.int (Int32.ofInt x)) = .int (Int32.ofInt x) := by
  obtain ⟨q, rfl⟩ := Int.eq_ofNat_of_zero_le h.1
  have hq : q < 65536 := by have := h.2; omega
  have e : Int32.ofInt (q : Int) = nI q := Int32.ofInt_eq_ofNat
  rw [e]
  exact (pk_charN hq).1
theorem k_sref {al : Int → Nat} {a : Int} (h : a < -1) : k_tv al (1, a) = .ref (al a) := by
  show va_rf (k_orf al a) = _
  unfold k_orf; rw [if_neg (by omega)]; rfl
theorem k_sl_small : ∀ i, i < 11 → k_sl.getD i 0 < 2147483648 := by decide +kernel
section
variable {d : Nat} {M : k_M} {pc : Nat} {ls st : List k_V} {A : k_H} {r : Int} {A' : k_H}
theorem k_ldcs {i j : Nat} {z : Int} {tx : String} (hd : decode M.2.1 pc = .ok (.ldc i, 2)) (hj : k_SR[j]? = some (M.1.cls, i, tx)) (hz : -10 - (j : Int) = z) (k : k_AW d M (pc + 2) ls ((1, z) :: st) A r A') : k_AW d M pc ls st A r A' :=
  ⟨k.1, fun p l e R s m args below meth c Q D cy A0 al0 sc ob al H locs cells slots LS C G F Y L gl gs => by
    obtain ⟨-, -, -, -, eS, eR, eZ, eF, -⟩ := C.2.2.2.2.2.2.2.2.2.2.2.2
    have ya := Y.2.2.2.2.2.2.2
    have hw := k.2 p l e R s m args below meth c Q D cy A0 al0 sc ob al H locs cells slots LS C G F Y L gl (k_gl_cons.mpr ⟨by show z < _; omega, gs⟩)
    rw [List.map_cons, k_sref (by omega), ya z (by omega)] at hw
    subst hz
    exact va_ldcS C.1 C.2.1 C.2.2.2.2.1 (eR j _ hj) hd hw⟩
theorem k_getsc {i : Nat} {a : Int} (hd : decode M.2.1 pc = .ok (.getfield i, 3)) (hl : Cond.fieldLink M.1.cls i "java/lang/String" "coder" "B" ∈ k_GW) (ha : k_isS a) (k : k_AW d M (pc + 3) ls ((0, 0) :: st) A r A') : k_AW d M pc ls ((1, a) :: st) A r A' :=
  ⟨k.1, fun p l e R s m args below meth c Q D cy A0 al0 sc ob al H locs cells slots LS C G F Y L gl gs => by
    obtain ⟨-, -, -, -, eS, eR, eZ, eF, -⟩ := C.2.2.2.2.2.2.2.2.2.2.2.2
    have ya := Y.2.2.2.2.2.2.2
    have hw := k.2 p l e R s m args below meth c Q D cy A0 al0 sc ob al H locs cells slots LS C G F Y L gl (k_gl_cons.mpr ⟨⟨by decide, by decide⟩, (k_gl_cons.mp gs).2⟩)
    have h1 := (eS.1 (-10 - a).toNat (by omega)).2.1
    have e1 : (-10 : Int) - (((-10 - a).toNat : Nat) : Int) = a := by omega
    simp only [e1] at h1
    rw [List.map_cons, k_sref (by omega), ya a (by omega)]
    exact vk_getf C.1 C.2.1 h1 Y.2.2.1 C.2.2.2.2.1 (C.2.2.2.2.2.1 _ hl) (fun _ h9 => h9) hd hw⟩
theorem k_getsv {i : Nat} {a : Int} (hd : decode M.2.1 pc = .ok (.getfield i, 3)) (hl : Cond.fieldLink M.1.cls i "java/lang/String" "value" "[B" ∈ k_GW) (ha : k_isS a) (k : k_AW d M (pc + 3) ls ((1, a - 30) :: st) A r A') : k_AW d M pc ls ((1, a) :: st) A r A' :=
  ⟨k.1, fun p l e R s m args below meth c Q D cy A0 al0 sc ob al H locs cells slots LS C G F Y L gl gs => by
    obtain ⟨-, -, -, -, eS, eR, eZ, eF, -⟩ := C.2.2.2.2.2.2.2.2.2.2.2.2
    have ya := Y.2.2.2.2.2.2.2
    have hw := k.2 p l e R s m args below meth c Q D cy A0 al0 sc ob al H locs cells slots LS C G F Y L gl (k_gl_cons.mpr ⟨by show a - 30 < _; omega, (k_gl_cons.mp gs).2⟩)
    have h1 := (eS.1 (-10 - a).toNat (by omega)).2.2.1
    have e1 : (-10 : Int) - (((-10 - a).toNat : Nat) : Int) = a := by omega
    have e2 : (-40 : Int) - (((-10 - a).toNat : Nat) : Int) = a - 30 := by omega
    simp only [e1, e2] at h1
    rw [List.map_cons, k_sref (by omega), ya (a - 30) (by omega)] at hw
    rw [List.map_cons, k_sref (by omega), ya a (by omega)]
    exact vk_getf C.1 C.2.1 h1 Y.2.2.1 C.2.2.2.2.1 (C.2.2.2.2.2.1 _ hl) (fun _ h9 => h9) hd hw⟩
theorem k_getz {i : Nat} (hd : decode M.2.1 pc = .ok (.getstatic i, 3)) (hl : Cond.fieldLink M.1.cls i "java/lang/String" "COMPACT_STRINGS" "Z" ∈ k_GW) (k : k_AW d M (pc + 3) ls ((0, 1) :: st) A r A') : k_AW d M pc ls st A r A' :=
  ⟨k.1, fun p l e R s m args below meth c Q D cy A0 al0 sc ob al H locs cells slots LS C G F Y L gl gs => by
    obtain ⟨-, -, -, -, eS, eR, eZ, eF, -⟩ := C.2.2.2.2.2.2.2.2.2.2.2.2
    have hw := k.2 p l e R s m args below meth c Q D cy A0 al0 sc ob al H locs cells slots LS C G F Y L gl (k_gl_cons.mpr ⟨⟨by decide, by decide⟩, gs⟩)
    exact va_gets C.1 C.2.1 eZ Y.2.2.1 C.2.2.2.2.1 (C.2.2.2.2.2.1 _ hl) (fun _ h9 => h9) hd hw⟩
theorem k_getfm {i : Nat} (hd : decode M.2.1 pc = .ok (.getstatic i, 3)) (hl : Cond.fieldLink M.1.cls i "jdk/internal/util/Preconditions" "SIOOBE_FORMATTER" "Ljava/util/function/BiFunction;" ∈ k_GW) (k : ∀ z : Int, k_AW d M (pc + 3) ls ((1, z) :: st) A r A') : k_AW d M pc ls st A r A' :=
  ⟨(k 0).1, fun p l e R s m args below meth c Q D cy A0 al0 sc ob al H locs cells slots LS C G F Y L gl gs => by
    obtain ⟨-, -, -, -, eS, eR, eZ, eF, -⟩ := C.2.2.2.2.2.2.2.2.2.2.2.2
    have ya := Y.2.2.2.2.2.2.2
    rcases eF with eF | eF
    · have hw := (k (-1)).2 p l e R s m args below meth c Q D cy A0 al0 sc ob al H locs cells slots LS C G F Y L gl (k_gl_cons.mpr ⟨by show (-1 : Int) < _; omega, gs⟩)
      exact va_gets C.1 C.2.1 eF Y.2.2.1 C.2.2.2.2.1 (C.2.2.2.2.2.1 _ hl) (fun _ h9 => h9) hd hw
    · have hw := (k (-3)).2 p l e R s m args below meth c Q D cy A0 al0 sc ob al H locs cells slots LS C G F Y L gl (k_gl_cons.mpr ⟨by show (-3 : Int) < _; omega, gs⟩)
      rw [List.map_cons, k_sref (by decide), ya (-3) (by omega)] at hw
      exact va_gets C.1 C.2.1 eF Y.2.2.1 C.2.2.2.2.1 (C.2.2.2.2.2.1 _ hl) (fun _ h9 => h9) hd hw⟩
theorem k_svlen {a : Int} (hd : decode M.2.1 pc = .ok (.arraylength, 1)) (ha : k_isSw a) (k : k_AW d M (pc + 1) ls ((0, k_svl a) :: st) A r A') : k_AW d M pc ls ((1, a) :: st) A r A' :=
  ⟨k.1, fun p l e R s m args below meth c Q D cy A0 al0 sc ob al H locs cells slots LS C G F Y L gl gs => by
    obtain ⟨-, -, -, -, eS, eR, eZ, eF, -⟩ := C.2.2.2.2.2.2.2.2.2.2.2.2
    have ya := Y.2.2.2.2.2.2.2
    have hi : (-40 - a).toNat < 11 := by omega
    have hsm := k_sl_small _ hi
    have hw := k.2 p l e R s m args below meth c Q D cy A0 al0 sc ob al H locs cells slots LS C G F Y L gl (k_gl_cons.mpr ⟨⟨by show (-2147483648 : Int) ≤ ((k_sl.getD (-40 - a).toNat 0 : Nat) : Int); omega, by show ((k_sl.getD (-40 - a).toNat 0 : Nat) : Int) < 2147483648; omega⟩, (k_gl_cons.mp gs).2⟩)
    have h1 := (eS.1 (-40 - a).toNat hi).2.2.2
    have e1 : (-40 : Int) - (((-40 - a).toNat : Nat) : Int) = a := by omega
    simp only [e1] at h1
    rw [List.map_cons, k_sref (by omega), ya a (by omega)]
    exact va_tlen C.1 C.2.1 h1 Y.2.2.1 (Int32.ofInt_eq_ofNat.symm) hd hw⟩
theorem k_sbald {a i : Int} (hd : decode M.2.1 pc = .ok (.baload, 1)) (ha : k_isSv a i) (k : k_AW d M (pc + 1) ls ((0, k_sbv a i) :: st) A r A') : k_AW d M pc ls ((0, i) :: (1, a) :: st) A r A' :=
  ⟨k.1, fun p l e R s m args below meth c Q D cy A0 al0 sc ob al H locs cells slots LS C G F Y L gl gs => by
    obtain ⟨-, -, -, -, eS, eR, eZ, eF, -⟩ := C.2.2.2.2.2.2.2.2.2.2.2.2
    have ya := Y.2.2.2.2.2.2.2
    obtain ⟨ha, hi0, hi⟩ := ha
    have hi1 : (-40 - a).toNat < 11 := by omega
    have gi := (k_gl_cons.mp gs).1
    obtain ⟨v1, v2⟩ := k_vin gi hi0 hi
    have hw := k.2 p l e R s m args below meth c Q D cy A0 al0 sc ob al H locs cells slots LS C G F Y L gl (k_gl_cons.mpr ⟨k_gi _ _, (k_gl_cons.mp (k_gl_cons.mp gs).2).2⟩)
    have h1 := (eS.1 (-40 - a).toNat hi1).2.2.2
    have e1 : (-40 : Int) - (((-40 - a).toNat : Nat) : Int) = a := by omega
    simp only [e1] at h1
    rw [List.map_cons, List.map_cons, k_sref (by omega), ya a (by omega)]
    refine va_tb C.1 C.2.1 h1 Y.2.2.1 v1 (v := k_tv al (0, k_sbv a i)) ?_ hd hw
    rw [v2]
    exact congrArg Value.int (Int32.ofInt_toInt _).symm⟩
end
section
variable {d d1 : Nat} {M M1 : k_M} {pc : Nat} {ls st st1 : List k_V} {A A1 : k_H} {r r1 : Int} {A' : k_H}
set_option maxHeartbeats 1000000 in
theorem k_callT {i n : Nat} {a : Int} {as : List k_V} (hd : decode M.2.1 pc = .ok (.invokevirtual i, 3)) (hb : k_CB M1 n) (hl : Cond.methodLink M.1.cls i M1.1 ∈ k_GW) (hi : Cond.instanceMethod M1.1 ∈ k_GW) (hse : Cond.selects M1.1.cls M1.1 M1.1 ∈ k_GW) (hc : M1.1.cls = "java/lang/String") (ha : k_isS a) (hdep : d1 + 1 ≤ d) (hn : as.length = n) (hs : k_sw st ≤ 8) (hA : k_AM d1 M1 ((1, a) :: as) A r1 A1) (hst : k_ps M1 r1 ++ st = st1) (k : k_AW d M (pc + 3) ls st1 A1 r A') : k_AW d M pc ls (as.reverse ++ (1, a) :: st) A r A' :=
  ⟨k_le_tr hA.1 k.1, fun p l e R s m args below meth c Q D cy A0 al0 sc ob al H locs cells slots LS C G F Y L gl gs => by
    obtain ⟨-, -, -, -, eS, eR, eZ, eF, -⟩ := C.2.2.2.2.2.2.2.2.2.2.2.2
    have ya := Y.2.2.2.2.2.2.2
    have hU : cells + ob.2.1 = k_U A := Y.2.2.2.2.2.1.1
    have hT : slots + ob.2.2 = k_T A := Y.2.2.2.2.2.1.2
    have kU := k.1.2.1
    have kT := k.1.2.2
    have aU := hA.1.2.1
    have aT := hA.1.2.2
    have gU : k_U A' ≤ R.cells + ob.2.1 := G.1
    have gT : k_T A' ≤ R.slots + ob.2.2 := G.2
    have hR1 := C.2.2.2.2.2.2.2.2.2.2.1
    have hR2 := C.2.2.2.2.2.2.2.2.2.2.2.1
    have hm31 := hb.2.2.2.2
    have hsum := k_sw_ok al st
    have hts := C.2.2.2.2.2.1
    have gs1 : k_gl (k_N A) as.reverse ∧ k_gl (k_N A) ((1, a) :: st) := k_gl_app.mp gs
    have gst := (k_gl_cons.mp gs1.2).2
    have gas := k_gl_cons.mpr ⟨(k_gl_cons.mp gs1.2).1, k_gl_rev.mp gs1.1⟩
    have estk : ((as.reverse ++ (1, a) :: st).map (k_tv al)) = (as.map (k_tv al)).reverse ++ .ref (al a) :: st.map (k_tv al) := by rw [List.map_append, List.map_cons, List.map_reverse, k_sref (by omega)]
    have eargs : (((1, a) :: as).map (k_tv al)).toArray = (Value.ref (al a) :: as.map (k_tv al)).toArray := by rw [List.map_cons, k_sref (by omega)]
    have hent := k_entry (as := (1, a) :: as) C Y gas
    rw [eargs] at hent
    rw [estk]
    have hrec := vk_recv eS (i := (-10 - a).toNat) (by omega) Y.2.2.1
    have e1 : (-10 : Int) - (((-10 - a).toNat : Nat) : Int) = a := by omega
    simp only [e1] at hrec
    rw [← ya a (by omega), ← hc] at hrec
    have hfr : d1 + 1 ≤ R.frames := by omega
    have hlo : 8 + (M1.2.2.1 + 11) + 50 * d1 ≤ R.locals := by omega
    have hce : cells + (k_U A1 - k_U A) ≤ R.cells := by omega
    have hsl : slots + (k_T A1 - k_T A) ≤ R.slots := by omega
    exact k_after hA.1 hst k C G F Y L gl gst (va_runV (As := as.map (k_tv al)) (rest := st.map (k_tv al)) ⟨C.1, C.2.1, C.2.2.1, C.2.2.2.2.1, hts⟩ (hA.2 l F.1 D cy al sc H.size) (C := M1.1.cls) ⟨⟨rfl, rfl, hfr, hlo, k_pay hts hb, List.mem_cons_self, hts _ hb.1, hts _ hb.2.1, hb.2.2.1, k_prm hb, hts _ hl⟩, hts _ hi, hts _ hse⟩ ⟨k_blind, hrec, hent⟩ rfl (by rw [List.length_map]; exact hn) L.1 rfl (by show 2 * 0 + _ ≤ 8; omega) hd ⟨hce, hsl⟩)⟩
end
