/-! making cells, copying, calls -/
theorem k_tv_al2 {al al' : Int → Nat} {n : Nat} (h : ∀ a : Int, a < n → al' a = al a) {v : k_V} (g : k_gv n v) : k_tv al' v = k_tv al v := by
  obtain ⟨t, x⟩ := v
  match t, g with
  | 0, _ => rfl
  | 1, g =>
    show va_rf (k_orf al' x) = va_rf (k_orf al x)
    unfold k_orf
    rw [h x g]
  | _ + 2, _ => rfl
theorem k_st_al2 {al al' : Int → Nat} {n : Nat} {st : List k_V} (ha : ∀ a : Int, a < n → al' a = al a) (g : k_gl n st) : st.map (k_tv al') = st.map (k_tv al) := List.map_congr_left fun v hv => k_tv_al2 ha (g v hv)
theorem k_tv_dft (al al' : Int → Nat) (k : Nat) (i : Int) : k_tv al (k_etag k i, k_dft k i) = k_tv al' (k_etag k i, k_dft k i) := by
  unfold k_dft
  by_cases h : k_etag k i = 1
  · rw [if_pos h, h]; rfl
  · rw [if_neg h]
    have := k_etag_lt k i
    match hh : k_etag k i, this with
    | 0, _ => rfl
    | 1, _ => exact absurd hh h
    | 2, _ => rfl
/-- the movable part behind a new cell -/
theorem k_Dy_mk {s : State} {D : va_G} {cy : Nat → ClassId} {A0 : Nat → Prop} {al0 : Int → Nat} {sc : Nat × (Nat → Int32)} {ob : Nat × Nat × Nat} {al : Int → Nat} {A : k_H} {H H1 : Heap} {locs : List Loc} {cells slots k len q : Nat} (Y : k_Dy s D cy A0 al0 sc ob al A H locs cells slots)
    {w : va_E} (hw : w = k_cell cy (fun a => if a = (k_N A : Int) then q else al a) (k, len) (k_dft k)) (hP : va_P D vwCl (k_ws cy al A ++ [(q, w)]) H1) (hD : va_D A0 (k_ws cy al A ++ [(q, w)])) (hS : va_S A0 s.heap H1 locs) : k_Dy s D cy A0 al0 sc ob (fun a => if a = (k_N A : Int) then q else al a) (k_mk A k len) H1 locs (cells + 1) (slots + len) := by
  obtain ⟨-, -, -, yg, ysc, ⟨yc, ys⟩, yn, ya⟩ := Y
  rw [hw, ← k_ws_mk yg] at hP hD
  refine ⟨hP, hD, hS, k_gh_mk yg, ⟨?_, fun j hj => ?_⟩, ⟨?_, ?_⟩, Nat.le_trans yn (Nat.le_succ _), fun a ha => ?_⟩
  · show (if (-2 : Int) = (k_N A : Int) then (k, len) else k_kd A (-2)) = _
    rw [if_neg (by omega)]; exact ysc.1
  · show (if (-2 : Int) = (k_N A : Int) then k_dft k j else k_rd A (-2) j) = _
    rw [if_neg (by omega)]; exact ysc.2 j hj
  · show cells + 1 + ob.2.1 = k_U A + 1
    omega
  · show slots + len + ob.2.2 = k_T A + len
    omega
  · show (if a = (k_N A : Int) then q else al a) = al0 a
    rw [if_neg (by omega)]; exact ya a ha
theorem k_al_mk {A : k_H} {al : Int → Nat} {q : Nat} : ∀ a : Int, a < k_N A → (fun a : Int => if a = (k_N A : Int) then q else al a) a = al a := fun a ha => by
  show (if a = (k_N A : Int) then q else al a) = al a
  rw [if_neg (by omega)]
/-- a class that a method makes -/
def k_NC (own : String) (i ci : Nat) : Prop := ∃ (Cn : String) (Tt : u_T) (Nn : Nat) (ty : Nat → FieldType), k_CI ci Cn Tt Nn ty ∧ Cond.classLink own i Cn ∈ k_GW ∧ Cond.instantiable Cn Nn ∈ k_GW ∧ Cond.initialized Cn ∈ k_GW
section
variable {d : Nat} {M : k_M} {pc : Nat} {ls st : List k_V} {A : k_H} {r : Int} {A' : k_H}
set_option maxHeartbeats 1000000 in
theorem k_new {i ci n : Nat} (hd : decode M.2.1 pc = .ok (.new i, 3)) (hc : k_NC M.1.cls i ci) (hn : (k_ftab.getD ci []).length = n) (k : k_AW d M (pc + 3) ls ((1, k_N A) :: st) (k_mk A ci n) r A') : k_AW d M pc ls st A r A' :=
  ⟨k_le_tr ⟨Nat.le_succ _, Nat.le_succ _, Nat.le_add_right _ _⟩ k.1, fun p l e R s m args below meth c Q D cy A0 al0 sc ob al H locs cells slots LS C G F Y L gl gs => by
    obtain ⟨Cn, Tt, Nn, ty, ⟨c1, c2, c3, c4, c5, c6, c7⟩, w1, w2, w3⟩ := hc
    have e1 : Nn = n := c2.trans hn
    subst e1
    have hU : cells + ob.2.1 = k_U A := Y.2.2.2.2.2.1.1
    have hT : slots + ob.2.2 = k_T A := Y.2.2.2.2.2.1.2
    have kU : k_U A + 1 ≤ k_U A' := k.1.2.1
    have kT : k_T A + Nn ≤ k_T A' := k.1.2.2
    have gU : k_U A' ≤ R.cells + ob.2.1 := G.1
    have gT : k_T A' ≤ R.slots + ob.2.2 := G.2
    refine va_new (D := D) (ci := ci) (fs := (List.range Nn).map fun (j : Nat) => k_tv (fun _ => 0) (k_etag ci j, k_dft ci j)) C.1 C.2.1 C.2.2.2.2.2.1 c4 ty c5 C.2.2.2.2.1 (C.2.2.2.2.2.1 _ w1) (C.2.2.2.2.2.1 _ w2) (C.2.2.2.2.2.1 _ w3) C.2.2.2.2.2.2.2.2.1 Y.1 Y.2.1 Y.2.2.1 C.2.2.2.2.2.2.2.2.2.1 c1 (fun j hj => ?_) (by omega) (by omega) hd (fun q H1 hP hD hS => ?_)
    · rw [c7 j hj]
      unfold vp_V
      rw [List.getD_eq_getElem?_getD, k_fs_get hj]
      rfl
    · have hcell : (.inr (ci, (List.range Nn).map fun (j : Nat) => k_tv (fun _ => 0) (k_etag ci j, k_dft ci j)) : va_E) = k_cell cy (fun a => if a = (k_N A : Int) then q else al a) (ci, Nn) (k_dft ci) := by
        rw [k_cell_o (ci := ci) rfl c3, ← c2]
        congr 2
        exact List.map_congr_left fun j _ => k_tv_dft _ _ _ _
      have w := k.2 p l e R s m args below meth c Q D cy A0 al0 sc ob _ H1 locs (cells + 1) (slots + Nn) LS C G F (k_Dy_mk Y hcell hP hD hS) (k_lo_al L k_al_mk gl) (k_gl_mono (Nat.le_succ _) gl) (k_gl_cons.mpr ⟨by show ((k_N A : Nat) : Int) < ((k_N A + 1 : Nat) : Int); omega, k_gl_mono (Nat.le_succ _) gs⟩)
      rw [List.map_cons, k_st_al2 k_al_mk gs, k_ref (by omega)] at w
      rw [if_pos rfl] at w
      exact w⟩
end
theorem k_RA_eq {s : State} {a b : ClassId} {ty : FieldType} (h1 : va_RA s a ty) (h2 : va_RA s b ty) : a = b := by
  cases ty with
  | object C =>
    obtain ⟨_, _, -, -, -, h4⟩ := h1
    obtain ⟨_, _, -, -, -, g4⟩ := h2
    exact Option.some.inj (h4.symm.trans g4)
  | _ => exact Option.some.inj (Eq.trans (Eq.symm h1) h2)
/-- kinds of rows of numbers: the machine's type, the kind -/
def k_AT (at_ : ArrayType) (K t0 : Nat) (ty : FieldType) : Prop := newarray.typeOf at_ = ty ∧ Cond.arrayClass ty ∈ k_GW ∧ (∀ cy : Nat → ClassId, (k_TY cy)[t0]? = some (cy K, ty)) ∧ componentBytes ty ≤ 8 ∧ ∀ (cy : Nat → ClassId) (al : Int → Nat) (n : Nat), ∃ a0 : vp_A, k_cell cy al (K, n) (k_dft K) = .inl (cy K, a0) ∧ ∀ cA : ClassId, vp_cell cA a0 = arrV cA n (fun _ => defaultValue ty)

theorem k_atI : k_AT .int 21 1 .int := ⟨rfl, k_gt 47 (by decide +kernel) (by decide +kernel), fun _ => rfl, by decide, fun cy al n => ⟨(n, .inl (fun (i : Nat) => Int32.ofInt (k_dft 21 i))), rfl, fun _ => rfl⟩⟩
theorem k_atB : k_AT .byte 20 0 .byte := ⟨rfl, k_gt 735 (by decide +kernel) (by decide +kernel), fun _ => rfl, by decide, fun cy al n => ⟨(n, .inl (fun (i : Nat) => Int32.ofInt (k_dft 20 i))), rfl, fun _ => rfl⟩⟩
theorem k_atL : k_AT .long 22 2 .long := ⟨rfl, k_gt 123 (by decide +kernel) (by decide +kernel), fun _ => rfl, by decide, fun cy al n => ⟨(n, .inr (.inl (fun (i : Nat) => Int64.ofInt (k_dft 22 i)))), rfl, fun _ => rfl⟩⟩
section
variable {d : Nat} {M : k_M} {pc : Nat} {ls st : List k_V} {A : k_H} {r : Int} {A' : k_H}
set_option maxHeartbeats 1000000 in
theorem k_newa {at_ : ArrayType} {K t0 : Nat} {ty : FieldType} {x : Int} {n : Nat} (hd : decode M.2.1 pc = .ok (.newarray at_, 2)) (ha : k_AT at_ K t0 ty) (hx : x = (n : Int)) (hn : n ≤ 1000000) (k : k_AW d M (pc + 2) ls ((1, k_N A) :: st) (k_mk A K n) r A') : k_AW d M pc ls ((0, x) :: st) A r A' :=
  ⟨k_le_tr ⟨Nat.le_succ _, Nat.le_succ _, Nat.le_add_right _ _⟩ k.1, fun p l e R s m args below meth c Q D cy A0 al0 sc ob al H locs cells slots LS C G F Y L gl gs => by
    obtain ⟨h1, h2, h3, h4, h5⟩ := ha
    have hU : cells + ob.2.1 = k_U A := Y.2.2.2.2.2.1.1
    have hT : slots + ob.2.2 = k_T A := Y.2.2.2.2.2.1.2
    have kU : k_U A + 1 ≤ k_U A' := k.1.2.1
    have kT : k_T A + n ≤ k_T A' := k.1.2.2
    have gU : k_U A' ≤ R.cells + ob.2.1 := G.1
    have gT : k_T A' ≤ R.slots + ob.2.2 := G.2
    have gx := k_i0 (k_gl_cons.mp gs).1
    obtain ⟨a0, ec, hv⟩ := h5 cy (fun _ => 0) n
    have hb : n * componentBytes ty ≤ 536870912 := Nat.le_trans (Nat.mul_le_mul hn h4) (by decide)
    rw [List.map_cons]
    refine va_newa (D := D) (ty := ty) (a0 := a0) C.1 C.2.1 (by rw [h1]; exact C.2.2.2.2.2.1 _ h2) h1 C.2.2.2.2.2.2.2.2.1 Y.1 Y.2.1 Y.2.2.1 C.2.2.2.2.2.2.2.2.2.1 hv ?_ ?_ hb (by omega) (by omega) hd (fun q cA H1 hK hP hD hS => ?_)
    · show ¬ Int32.ofInt x < 0
      rw [Int32.lt_iff_toInt_lt, gx, Int32.toInt_zero]; omega
    · show (Int32.ofInt x).toNatClampNeg = n
      rw [← Int32.toNat_toInt, gx]; omega
    · have e1 : cA = cy K := k_RA_eq (hK.2 5 (cA, ty) rfl).2 (C.2.2.2.2.2.2.2.2.1.2 t0 _ (h3 cy)).2
      subst e1
      have hcell : (.inl (cy K, a0) : va_E) = k_cell cy (fun a => if a = (k_N A : Int) then q else al a) (K, n) (k_dft K) := by
        rw [← ec]
        exact (k_cell_al (n := 0) (k := (K, n)) (fun a ha => rfl) (fun i => k_dft_gv _ _ _)).symm.trans (by
          unfold k_cell
          split
          · congr 2
            exact List.map_congr_left fun j _ => k_tv_dft _ _ _ _
          · congr 3
            split
            · rfl
            · split
              · rfl
              · rename_i h20 h22 h23
                congr 4
                funext j
                have e : k_dft K j = -1 := by
                  unfold k_dft
                  have : k_etag K j = 1 := by
                    unfold k_etag
                    rw [if_neg h20, if_neg h22, if_neg h23]
                  rw [if_pos this]
                rw [e]; rfl)
      have w := k.2 p l e R s m args below meth c Q D cy A0 al0 sc ob _ H1 locs (cells + 1) (slots + n) LS C G F (k_Dy_mk Y hcell hP hD hS) (k_lo_al L k_al_mk gl) (k_gl_mono (Nat.le_succ _) gl) (k_gl_cons.mpr ⟨by show ((k_N A : Nat) : Int) < ((k_N A + 1 : Nat) : Int); omega, k_gl_mono (Nat.le_succ _) (k_gl_cons.mp gs).2⟩)
      rw [List.map_cons, k_st_al2 k_al_mk (k_gl_cons.mp gs).2, k_ref (by omega)] at w
      rw [if_pos rfl] at w
      exact w⟩
set_option maxHeartbeats 1000000 in
theorem k_anewa {i K t0 : Nat} {x : Int} {n : Nat} {Cn : String} (hd : decode M.2.1 pc = .ok (.anewarray i, 3)) (hK0 : (K = 23 ∧ t0 = 3 ∧ Cn = RX1) ∨ (K = 24 ∧ t0 = 4 ∧ Cn = RX4)) (hw : Cond.classLink M.1.cls i Cn ∈ k_GW) (hx : x = (n : Int)) (hn : n ≤ 1000000) (k : k_AW d M (pc + 3) ls ((1, k_N A) :: st) (k_mk A K n) r A') : k_AW d M pc ls ((0, x) :: st) A r A' :=
  ⟨k_le_tr ⟨Nat.le_succ _, Nat.le_succ _, Nat.le_add_right _ _⟩ k.1, fun p l e R s m args below meth c Q D cy A0 al0 sc ob al H locs cells slots LS C G F Y L gl gs => by
    have hU : cells + ob.2.1 = k_U A := Y.2.2.2.2.2.1.1
    have hT : slots + ob.2.2 = k_T A := Y.2.2.2.2.2.1.2
    have kU : k_U A + 1 ≤ k_U A' := k.1.2.1
    have kT : k_T A + n ≤ k_T A' := k.1.2.2
    have gU : k_U A' ≤ R.cells + ob.2.1 := G.1
    have gT : k_T A' ≤ R.slots + ob.2.2 := G.2
    have gx := k_i0 (k_gl_cons.mp gs).1
    have hao : va_AO Cn s := by
      rcases hK0 with ⟨-, -, rfl⟩ | ⟨-, -, rfl⟩
      · exact C.2.2.2.2.2.2.2.2.2.2.2.2.2.1
      · exact C.2.2.2.2.2.2.2.2.2.2.2.2.2.2.1
    rw [List.map_cons]
    refine va_newq (D := D) C.1 C.2.1 C.2.2.2.2.1 (C.2.2.2.2.2.1 _ hw) hao C.2.2.2.2.2.2.2.2.1 Y.1 Y.2.1 Y.2.2.1 C.2.2.2.2.2.2.2.2.2.1 ?_ ?_ (Nat.le_trans (Nat.mul_le_mul_right 4 hn) (by decide)) (by omega) (by omega) hd (fun q cA H1 hK hP hD hS => ?_)
    · show ¬ Int32.ofInt x < 0
      rw [Int32.lt_iff_toInt_lt, gx, Int32.toInt_zero]; omega
    · show (Int32.ofInt x).toNatClampNeg = n
      rw [← Int32.toNat_toInt, gx]; omega
    · have e1 : cA = cy K := by
        refine k_RA_eq (hK.2 5 (cA, .object Cn) rfl).2 (C.2.2.2.2.2.2.2.2.1.2 t0 (cy K, .object Cn) ?_).2
        rcases hK0 with ⟨rfl, rfl, rfl⟩ | ⟨rfl, rfl, rfl⟩ <;> rfl
      subst e1
      have hcell : (.inl (cy K, n, .inr (.inr (.inr (.inr (fun _ => none))))) : va_E) = k_cell cy (fun a => if a = (k_N A : Int) then q else al a) (K, n) (k_dft K) := by
        rcases hK0 with ⟨rfl, rfl, rfl⟩ | ⟨rfl, rfl, rfl⟩ <;> rfl
      have w := k.2 p l e R s m args below meth c Q D cy A0 al0 sc ob _ H1 locs (cells + 1) (slots + n) LS C G F (k_Dy_mk Y hcell hP hD hS) (k_lo_al L k_al_mk gl) (k_gl_mono (Nat.le_succ _) gl) (k_gl_cons.mpr ⟨by show ((k_N A : Nat) : Int) < ((k_N A + 1 : Nat) : Int); omega, k_gl_mono (Nat.le_succ _) (k_gl_cons.mp gs).2⟩)
      rw [List.map_cons, k_st_al2 k_al_mk (k_gl_cons.mp gs).2, k_ref (by omega)] at w
      rw [if_pos rfl] at w
      exact w⟩
end
/-- words on the stack -/
def k_sw : List k_V → Nat
  | [] => 0
  | v :: l => (if v.1 = 2 then 2 else if v.1 < 2 then 1 else 9) + k_sw l
theorem k_sw_ok (al : Int → Nat) : ∀ st : List k_V, ((st.map (k_tv al)).map fun v => v.category).sum ≤ k_sw st := by
  intro st
  induction st with
  | nil => exact Nat.le_refl _
  | cons v l ih =>
    rw [List.map_cons, List.map_cons, List.sum_cons, k_sw]
    refine Nat.add_le_add ?_ ih
    by_cases h : v.1 < 3
    · rw [k_cat al v h]
      split
      · exact Nat.le_refl _
      · split <;> omega
    · rw [if_neg (by omega), if_neg (by omega)]
      have := lv_cat (k_tv al v)
      omega
/-- a row copied into another -/
def k_cp (A : k_H) (a0 sp a dp n : Int) : k_H := (A.1, A.2.1, fun b j => if b = a ∧ dp ≤ j ∧ j < dp + n then A.2.2 a0 (sp + (j - dp)) else A.2.2 b j)
theorem k_ws_cp {cy : Nat → ClassId} {al : Int → Nat} {A : k_H} {a0 sp a dp n : Int} (h0 : 0 ≤ a) : k_ws cy al (k_cp A a0 sp a dp n) = (k_ws cy al A).set a.toNat (al a, k_cell cy al (k_kd A a) (fun j => if dp ≤ j ∧ j < dp + n then k_rd A a0 (sp + (j - dp)) else k_rd A a j)) := by
  obtain ⟨b, rfl⟩ := Int.eq_ofNat_of_zero_le h0
  refine List.ext_getElem? fun q => ?_
  rw [List.getElem?_set]
  by_cases hn : q < k_N A
  · have e1 : (k_ws cy al (k_cp A a0 sp b dp n))[q]? = some (al q, k_cell cy al (k_kd A q) (k_rd (k_cp A a0 sp b dp n) q)) := by
      have : q < k_N (k_cp A a0 sp b dp n) := hn
      simp [k_ws, this]
      rfl
    rw [e1]
    by_cases hb : b = q
    · subst hb
      simp only [Int.toNat_natCast, if_true, k_ws_len, hn]
      have : k_rd (k_cp A a0 sp b dp n) b = fun j => if dp ≤ j ∧ j < dp + n then k_rd A a0 (sp + (j - dp)) else k_rd A b j := by
        funext j
        simp [k_rd, k_cp]
      rw [this]
    · have e2 : (k_ws cy al A)[q]? = some (al q, k_cell cy al (k_kd A q) (k_rd A q)) := by simp [k_ws, hn]
      have e3 : k_rd (k_cp A a0 sp b dp n) q = k_rd A q := by
        funext j
        have : ¬ ((q : Int) = b ∧ dp ≤ j ∧ j < dp + n) := by omega
        simp [k_rd, k_cp, this]
      rw [if_neg (by simpa using hb), e2, e3]
  · have e1 : (k_ws cy al (k_cp A a0 sp b dp n))[q]? = none := by
      rw [List.getElem?_eq_none]
      rw [k_ws_len]
      exact Nat.not_lt.mp hn
    have e2 : (k_ws cy al A)[q]? = none := by
      rw [List.getElem?_eq_none]
      rw [k_ws_len]
      exact Nat.not_lt.mp hn
    rw [e1, e2]
    split
    · rename_i hb
      rw [if_neg]
      rw [k_ws_len]
      simp at hb
      omega
    · rfl
