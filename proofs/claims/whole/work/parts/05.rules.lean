def k_c16 (x : Int) : Int := ((Int32.ofInt x).toUInt32 % 65536).toInt32.toInt
def k_b8 (x : Int) : Int := (Int32.ofInt x).toInt8.toInt32.toInt
def k_lshr (x y : Int) : Int := (Int64.ofInt x >>> ((Int32.ofInt y).toInt64 &&& 63)).toInt
def k_lshl (x y : Int) : Int := (Int64.ofInt x <<< ((Int32.ofInt y).toInt64 &&& 63)).toInt
def k_l2i (x : Int) : Int := (Int64.ofInt x).toInt32.toInt
def k_lushr (x y : Int) : Int := ((Int64.ofInt x).toUInt64 >>> ((Int32.ofInt y).toInt64.toUInt64 &&& Int64.toUInt64 63)).toInt64.toInt
def k_ushr (x y : Int) : Int := ((Int32.ofInt x).toUInt32 >>> ((Int32.ofInt y).toUInt32 &&& Int32.toUInt32 31)).toInt32.toInt
def k_lorr (x y : Int) : Int := (Int64.ofInt x ||| Int64.ofInt y).toInt
def k_landd (x y : Int) : Int := (Int64.ofInt x &&& Int64.ofInt y).toInt
def k_shr (x y : Int) : Int := (Int32.ofInt x >>> (Int32.ofInt y &&& 31)).toInt
def k_shl (x y : Int) : Int := (Int32.ofInt x <<< (Int32.ofInt y &&& 31)).toInt
def k_or (x y : Int) : Int := (Int32.ofInt x ||| Int32.ofInt y).toInt
def k_and (x y : Int) : Int := (Int32.ofInt x &&& Int32.ofInt y).toInt
/-! rules of single instructions, stack and locals -/
/-- an instruction that leaves heap and locals -/
theorem k_pure {d : Nat} {M : k_M} {pc pc' : Nat} {ls st st' : List k_V} {A : k_H} {r : Int} {A' : k_H} (k : k_AW d M pc' ls st' A r A')
    (h : ∀ {p : Program} {l : Launch} {e : Env} {R : Room} {s : State} {m : MethodId} {args : Array Value} {below : List Frame} {meth : Method} {c : Code} {H : Heap} {locs : List Loc} {cells slots : Nat} {Q : State → Prop} {LS : Array Slot} (al : Int → Nat), p.tables.exec = Jvm.exec → c.code = M.2.1 → k_lo al M.2.2.1 ls LS → k_gl (k_N A) ls → k_gl (k_N A) st → W p l e R s m args below meth c H locs cells slots Q (F0 m pc' LS (st'.map (k_tv al))) → W p l e R s m args below meth c H locs cells slots Q (F0 m pc LS (st.map (k_tv al))))
    (hg : k_gl (k_N A) ls → k_gl (k_N A) st → k_gl (k_N A) st') : k_AW d M pc ls st A r A' :=
  ⟨k.1, fun p l e R s m args below meth c Q D cy A0 al0 sc ob al H locs cells slots LS C G F Y L gl gs => h al C.1 C.2.1 L gl gs (k.2 p l e R s m args below meth c Q D cy A0 al0 sc ob al H locs cells slots LS C G F Y L gl (hg gl gs))⟩
/-- fewer known locals, other names of the same -/
theorem k_sub {d : Nat} {M : k_M} {pc : Nat} {ls ls' st : List k_V} {A : k_H} {r : Int} {A' : k_H} (hs : ∀ (k : Nat) (v : k_V), ls'[k]? = some v → v.1 < 3 → ls[k]? = some v) (k : k_AW d M pc ls' st A r A') : k_AW d M pc ls st A r A' :=
  ⟨k.1, fun p l e R s m args below meth c Q D cy A0 al0 sc ob al H locs cells slots LS C G F Y L gl gs => k.2 p l e R s m args below meth c Q D cy A0 al0 sc ob al H locs cells slots LS C G F Y (k_lo_sub L hs) (fun v hv => by
    by_cases h3 : v.1 < 3
    · obtain ⟨i, hi⟩ := List.getElem?_of_mem hv
      exact gl v (List.mem_of_getElem? (hs i v hi h3))
    · obtain ⟨t, x⟩ := v
      match t, h3 with
      | t + 3, _ => exact trivial
      | 0, h3 => exact absurd (by show 0 < 3; decide) h3
      | 1, h3 => exact absurd (by show 1 < 3; decide) h3
      | 2, h3 => exact absurd (by show 2 < 3; decide) h3) gs⟩
def k_sbl : List k_V → List k_V → Prop
  | [], _ => True
  | b :: l', a :: l => (b.1 = 3 ∨ a = b) ∧ k_sbl l' l
  | b :: l', [] => b.1 = 3 ∧ k_sbl l' []
theorem k_sbl_ok : ∀ (l' l : List k_V), k_sbl l' l → ∀ (k : Nat) (v : k_V), l'[k]? = some v → v.1 < 3 → l[k]? = some v := by
  intro l'
  induction l' with
  | nil => intro l _ k v h; simp at h
  | cons b l' ih =>
    intro l hs k v h hv
    cases l with
    | nil =>
      cases k with
      | zero => cases h; have := hs.1; omega
      | succ k => have := ih [] hs.2 k v h hv; simp at this
    | cons a l =>
      cases k with
      | zero =>
        cases h
        rcases hs.1 with h1 | h1
        · omega
        · rw [h1]; rfl
      | succ k => exact ih l hs.2 k v h hv
/-- numbers -/
theorem k_i0 {n : Nat} {x : Int} (g : k_gv n (0, x)) : (Int32.ofInt x).toInt = x := Int32.toInt_ofInt_of_le g.1 g.2
theorem k_l0 {n : Nat} {x : Int} (g : k_gv n (2, x)) : (Int64.ofInt x).toInt = x := Int64.toInt_ofInt_of_le g.1 g.2
theorem k_ilt {n : Nat} {x y : Int} (gx : k_gv n (0, x)) (gy : k_gv n (0, y)) : Int32.ofInt x < Int32.ofInt y ↔ x < y := by rw [Int32.lt_iff_toInt_lt, k_i0 gx, k_i0 gy]
theorem k_ile {n : Nat} {x y : Int} (gx : k_gv n (0, x)) (gy : k_gv n (0, y)) : Int32.ofInt x ≤ Int32.ofInt y ↔ x ≤ y := by rw [Int32.le_iff_toInt_le, k_i0 gx, k_i0 gy]
theorem k_ieq {n : Nat} {x y : Int} (gx : k_gv n (0, x)) (gy : k_gv n (0, y)) : Int32.ofInt x = Int32.ofInt y ↔ x = y := by rw [← Int32.toInt_inj, k_i0 gx, k_i0 gy]
theorem k_g00 (n : Nat) : k_gv n (0, 0) := ⟨by decide, by decide⟩
theorem k_gi (n : Nat) (x : Int32) : k_gv n (0, x.toInt) := k_i32_range x
theorem k_gl64 (n : Nat) (x : Int64) : k_gv n (2, x.toInt) := k_i64_range x
def k_ch (x y : Int32) : Int32 := x
section
variable {d : Nat} {M : k_M} {pc : Nat} {ls st : List k_V} {A : k_H} {r : Int} {A' : k_H}
theorem k_iconst {n : Int} (hd : decode M.2.1 pc = .ok (.iconst n, 1)) (hn : -2147483648 ≤ n ∧ n < 2147483648) (k : k_AW d M (pc + 1) ls ((0, n) :: st) A r A') : k_AW d M pc ls st A r A' :=
  k_pure k (fun al hx hb _ _ _ k => lv_iconst hx hb hd rfl k) (fun _ g => k_gl_cons.mpr ⟨hn, g⟩)
theorem k_bipush {n : Int} (hd : decode M.2.1 pc = .ok (.bipush n, 2)) (hn : -2147483648 ≤ n ∧ n < 2147483648) (he : (Int8.ofInt n).toInt32 = Int32.ofInt n) (k : k_AW d M (pc + 2) ls ((0, n) :: st) A r A') : k_AW d M pc ls st A r A' :=
  k_pure k (fun al hx hb _ _ _ k => lv_bipush hx hb hd he k) (fun _ g => k_gl_cons.mpr ⟨hn, g⟩)
theorem k_sipush {n : Int} (hd : decode M.2.1 pc = .ok (.sipush n, 3)) (hn : -2147483648 ≤ n ∧ n < 2147483648) (he : (Int16.ofInt n).toInt32 = Int32.ofInt n) (k : k_AW d M (pc + 3) ls ((0, n) :: st) A r A') : k_AW d M pc ls st A r A' :=
  k_pure k (fun al hx hb _ _ _ k => lv_sipush hx hb hd he k) (fun _ g => k_gl_cons.mpr ⟨hn, g⟩)
theorem k_lconst {n : Fin 2} {z : Int} (hd : decode M.2.1 pc = .ok (.lconst n, 1)) (hz : Int64.ofNat (n : Nat) = Int64.ofInt z) (hn : -9223372036854775808 ≤ z ∧ z < 9223372036854775808) (k : k_AW d M (pc + 1) ls ((2, z) :: st) A r A') : k_AW d M pc ls st A r A' :=
  k_pure k (fun al hx hb _ _ _ k => lv_lconst hx hb hd hz k) (fun _ g => k_gl_cons.mpr ⟨hn, g⟩)
theorem k_ldci {n : Int} {i : Nat} (hd : decode M.2.1 pc = .ok (.ldc i, 2)) (hw : Cond.constant M.1.cls i (Int32.ofInt n) ∈ k_GW) (hn : -2147483648 ≤ n ∧ n < 2147483648) (k : k_AW d M (pc + 2) ls ((0, n) :: st) A r A') : k_AW d M pc ls st A r A' :=
  ⟨k.1, fun p l e R s m args below meth c Q D cy A0 al0 sc ob al H locs cells slots LS C G F Y L gl gs => lv_ldc C.1 C.2.1 C.2.2.2.2.1 (C.2.2.2.2.2.1 _ hw) hd (k.2 p l e R s m args below meth c Q D cy A0 al0 sc ob al H locs cells slots LS C G F Y L gl (k_gl_cons.mpr ⟨hn, gs⟩))⟩
theorem k_ldcw {n : Int} {i : Nat} (hd : decode M.2.1 pc = .ok (.ldc_w i, 3)) (hw : Cond.constant M.1.cls i (Int32.ofInt n) ∈ k_GW) (hn : -2147483648 ≤ n ∧ n < 2147483648) (k : k_AW d M (pc + 3) ls ((0, n) :: st) A r A') : k_AW d M pc ls st A r A' :=
  ⟨k.1, fun p l e R s m args below meth c Q D cy A0 al0 sc ob al H locs cells slots LS C G F Y L gl gs => lv_ldcw C.1 C.2.1 C.2.2.2.2.1 (C.2.2.2.2.2.1 _ hw) hd (k.2 p l e R s m args below meth c Q D cy A0 al0 sc ob al H locs cells slots LS C G F Y L gl (k_gl_cons.mpr ⟨hn, gs⟩))⟩
theorem k_ldc2 {n : Int} {i : Nat} (hd : decode M.2.1 pc = .ok (.ldc2_w i, 3)) (hw : Cond.constantLong M.1.cls i (Int64.ofInt n) ∈ k_GW) (hn : -9223372036854775808 ≤ n ∧ n < 9223372036854775808) (k : k_AW d M (pc + 3) ls ((2, n) :: st) A r A') : k_AW d M pc ls st A r A' :=
  ⟨k.1, fun p l e R s m args below meth c Q D cy A0 al0 sc ob al H locs cells slots LS C G F Y L gl gs => lv_ldc2 C.1 C.2.1 C.2.2.2.2.1 (C.2.2.2.2.2.1 _ hw) hd (k.2 p l e R s m args below meth c Q D cy A0 al0 sc ob al H locs cells slots LS C G F Y L gl (k_gl_cons.mpr ⟨hn, gs⟩))⟩
theorem k_iload_n {i : Fin 4} {j : Nat} {x : Int} (hd : decode M.2.1 pc = .ok (.iload_n i, 1)) (hi : (i : Nat) = j) (hl : ls[j]? = some (0, x)) (k : k_AW d M (pc + 1) ls ((0, x) :: st) A r A') : k_AW d M pc ls st A r A' :=
  k_pure k (fun al hx hb L _ _ k => lv_iload_n hx hb hd hi (L.2.2 j _ hl (by show 0 < 3; decide)) k) (fun gl g => k_gl_cons.mpr ⟨gl _ (List.mem_of_getElem? hl), g⟩)
theorem k_iload {j : Nat} {x : Int} (hd : decode M.2.1 pc = .ok (.iload j, 2)) (hl : ls[j]? = some (0, x)) (k : k_AW d M (pc + 2) ls ((0, x) :: st) A r A') : k_AW d M pc ls st A r A' :=
  k_pure k (fun al hx hb L _ _ k => lv_iload hx hb hd (L.2.2 j _ hl (by show 0 < 3; decide)) k) (fun gl g => k_gl_cons.mpr ⟨gl _ (List.mem_of_getElem? hl), g⟩)
theorem k_lload_n {i : Fin 4} {j : Nat} {x : Int} (hd : decode M.2.1 pc = .ok (.lload_n i, 1)) (hi : (i : Nat) = j) (hl : ls[j]? = some (2, x)) (k : k_AW d M (pc + 1) ls ((2, x) :: st) A r A') : k_AW d M pc ls st A r A' :=
  k_pure k (fun al hx hb L _ _ k => lv_lload_n hx hb hd hi (L.2.2 j _ hl (by show 2 < 3; decide)) k) (fun gl g => k_gl_cons.mpr ⟨gl _ (List.mem_of_getElem? hl), g⟩)
theorem k_lload {j : Nat} {x : Int} (hd : decode M.2.1 pc = .ok (.lload j, 2)) (hl : ls[j]? = some (2, x)) (k : k_AW d M (pc + 2) ls ((2, x) :: st) A r A') : k_AW d M pc ls st A r A' :=
  k_pure k (fun al hx hb L _ _ k => lv_lload hx hb hd (L.2.2 j _ hl (by show 2 < 3; decide)) k) (fun gl g => k_gl_cons.mpr ⟨gl _ (List.mem_of_getElem? hl), g⟩)
theorem k_aload_n {i : Fin 4} {j : Nat} {x : Int} (hd : decode M.2.1 pc = .ok (.aload_n i, 1)) (hi : (i : Nat) = j) (hl : ls[j]? = some (1, x)) (k : k_AW d M (pc + 1) ls ((1, x) :: st) A r A') : k_AW d M pc ls st A r A' :=
  k_pure k (fun al hx hb L _ _ k => by
    have h := L.2.2 j _ hl (by show 1 < 3; decide)
    have e : k_tv al (1, x) = va_rf (k_orf al x) := rfl
    rw [List.map_cons] at k
    rw [e] at h k
    cases hq : k_orf al x with
    | none => rw [hq] at h k; exact lv_aload_nN hx hb hd hi h k
    | some q => rw [hq] at h k; exact lv_aload_n hx hb hd hi h k) (fun gl g => k_gl_cons.mpr ⟨gl _ (List.mem_of_getElem? hl), g⟩)
theorem k_aload {j : Nat} {x : Int} (hd : decode M.2.1 pc = .ok (.aload j, 2)) (hl : ls[j]? = some (1, x)) (k : k_AW d M (pc + 2) ls ((1, x) :: st) A r A') : k_AW d M pc ls st A r A' :=
  k_pure k (fun al hx hb L _ _ k => by
    have h := L.2.2 j _ hl (by show 1 < 3; decide)
    have e : k_tv al (1, x) = va_rf (k_orf al x) := rfl
    rw [List.map_cons] at k
    rw [e] at h k
    cases hq : k_orf al x with
    | none => rw [hq] at h k; exact lv_aloadN hx hb hd h k
    | some q => rw [hq] at h k; exact lv_aload hx hb hd h k) (fun gl g => k_gl_cons.mpr ⟨gl _ (List.mem_of_getElem? hl), g⟩)
end
def k_lvl (al : Int → Nat) (ls : List k_V) : List (Nat × Value) := (List.range ls.length).filterMap fun k => (ls[k]?).bind fun v => if v.1 < 3 then some (k, k_tv al v) else none
theorem k_lvl_mem {al : Int → Nat} {ls : List k_V} {k : Nat} {v : k_V} (h : ls[k]? = some v) (hv : v.1 < 3) : (k, k_tv al v) ∈ k_lvl al ls := by
  refine List.mem_filterMap.mpr ⟨k, List.mem_range.mpr (List.getElem?_eq_some_iff.mp h).1, ?_⟩
  rw [h]
  show (if v.1 < 3 then _ else _) = _
  rw [if_pos hv]
theorem k_lvl_has {al : Int → Nat} {nL : Nat} {ls : List k_V} {LS : Array Slot} (h : k_lo al nL ls LS) : lv_has LS nL (k_lvl al ls) := by
  refine ⟨h.1, h.2.1, fun q hq => ?_⟩
  obtain ⟨k, -, hk⟩ := List.mem_filterMap.mp hq
  cases hv : ls[k]? with
  | none => rw [hv] at hk; simp at hk
  | some v =>
    rw [hv] at hk
    have hk : (if v.1 < 3 then some (k, k_tv al v) else none) = some q := hk
    by_cases h3 : v.1 < 3
    · rw [if_pos h3] at hk
      cases hk
      exact h.2.2 k v hv h3
    · rw [if_neg h3] at hk; cases hk
/-- no long just ahead -/
def k_nol (ls : List k_V) : Nat → Bool
  | 0 => true
  | j + 1 => (ls.getD j (3, 0)).1 != 2
theorem k_lo_set {al : Int → Nat} {nL : Nat} {ls : List k_V} {LS : Array Slot} {i : Nat} {v : k_V} (hn : k_nol ls i = true) (h : lv_has LS nL ((i, k_tv al v) :: (k_lvl al ls).filter (fun q => !(q.1 == i) && !(q.1 + 1 == i && q.2.category == 2)))) : k_lo al nL (ls.set i v) LS := by
  refine ⟨h.1, h.2.1, fun k w hk hw => ?_⟩
  rw [List.getElem?_set] at hk
  by_cases hi : i = k
  · rw [if_pos hi] at hk
    subst hi
    split at hk
    · cases hk
      exact h.2.2 _ List.mem_cons_self
    · cases hk
  · rw [if_neg hi] at hk
    refine h.2.2 (k, k_tv al w) (List.mem_cons_of_mem _ (List.mem_filter.mpr ⟨k_lvl_mem hk hw, ?_⟩))
    have h1 : (k == i) = false := by simp; omega
    have h2 : (k + 1 == i && (k_tv al w).category == 2) = false := by
      by_cases hj : k + 1 = i
      · subst hj
        have h3 : (ls.getD k (3, 0)).1 ≠ 2 := by simpa [k_nol] using hn
        rw [List.getD_eq_getElem?_getD, hk] at h3
        have h4 : w.1 ≠ 2 := h3
        rw [k_cat al w hw, if_neg h4]
        simp
      · simp [hj]
    show (!(k == i) && !(k + 1 == i && (k_tv al w).category == 2)) = true
    rw [h1, h2]; rfl
theorem k_gl_set {n : Nat} {ls : List k_V} {i : Nat} {v : k_V} (g : k_gl n ls) (h : k_gv n v) : k_gl n (ls.set i v) := fun w hw => by
  rcases List.mem_or_eq_of_mem_set hw with h1 | h1
  · exact g w h1
  · rw [h1]; exact h
section
variable {d : Nat} {M : k_M} {pc : Nat} {ls st : List k_V} {A : k_H} {r : Int} {A' : k_H}
theorem k_istore_n {i : Fin 4} {j : Nat} {x : Int} (hd : decode M.2.1 pc = .ok (.istore_n i, 1)) (hi : (i : Nat) = j) (hj : j < M.2.2.1) (hn : k_nol ls j = true) (k : k_AW d M (pc + 1) (ls.set j (0, x)) st A r A') : k_AW d M pc ls ((0, x) :: st) A r A' :=
  ⟨k.1, fun p l e R s m args below meth c Q D cy A0 al0 sc ob al H locs cells slots LS C G F Y L gl gs => lv_istore_n C.1 C.2.1 hd hi (k_lvl_has L) hj rfl fun LS' h' => k.2 p l e R s m args below meth c Q D cy A0 al0 sc ob al H locs cells slots LS' C G F Y (k_lo_set (v := (0, x)) hn h') (k_gl_set gl (k_gl_cons.mp gs).1) (k_gl_cons.mp gs).2⟩
theorem k_istore {j : Nat} {x : Int} (hd : decode M.2.1 pc = .ok (.istore j, 2)) (hj : j < M.2.2.1) (hn : k_nol ls j = true) (k : k_AW d M (pc + 2) (ls.set j (0, x)) st A r A') : k_AW d M pc ls ((0, x) :: st) A r A' :=
  ⟨k.1, fun p l e R s m args below meth c Q D cy A0 al0 sc ob al H locs cells slots LS C G F Y L gl gs => lv_istore C.1 C.2.1 hd (k_lvl_has L) hj rfl fun LS' h' => k.2 p l e R s m args below meth c Q D cy A0 al0 sc ob al H locs cells slots LS' C G F Y (k_lo_set (v := (0, x)) hn h') (k_gl_set gl (k_gl_cons.mp gs).1) (k_gl_cons.mp gs).2⟩
theorem k_astore_n {i : Fin 4} {j : Nat} {x : Int} (hd : decode M.2.1 pc = .ok (.astore_n i, 1)) (hi : (i : Nat) = j) (hj : j < M.2.2.1) (hn : k_nol ls j = true) (hr : x ≠ -1) (k : k_AW d M (pc + 1) (ls.set j (1, x)) st A r A') : k_AW d M pc ls ((1, x) :: st) A r A' :=
  ⟨k.1, fun p l e R s m args below meth c Q D cy A0 al0 sc ob al H locs cells slots LS C G F Y L gl gs => by
    have ev : k_tv al (1, x) = .ref (al x) := by
      show va_rf (k_orf al x) = _
      unfold k_orf; rw [if_neg hr]; rfl
    have w : W p l e R s m args below meth c H locs cells slots Q (F0 m pc LS (.ref (al x) :: st.map (k_tv al))) := lv_astore_n C.1 C.2.1 hd hi (k_lvl_has L) hj rfl fun LS' h' => k.2 p l e R s m args below meth c Q D cy A0 al0 sc ob al H locs cells slots LS' C G F Y (k_lo_set (v := (1, x)) hn (by rw [ev]; exact h')) (k_gl_set gl (k_gl_cons.mp gs).1) (k_gl_cons.mp gs).2
    rw [List.map_cons, ev]
    exact w⟩
theorem k_astore {j : Nat} {x : Int} (hd : decode M.2.1 pc = .ok (.astore j, 2)) (hj : j < M.2.2.1) (hn : k_nol ls j = true) (hr : x ≠ -1) (k : k_AW d M (pc + 2) (ls.set j (1, x)) st A r A') : k_AW d M pc ls ((1, x) :: st) A r A' :=
  ⟨k.1, fun p l e R s m args below meth c Q D cy A0 al0 sc ob al H locs cells slots LS C G F Y L gl gs => by
    have ev : k_tv al (1, x) = .ref (al x) := by
      show va_rf (k_orf al x) = _
      unfold k_orf; rw [if_neg hr]; rfl
    have w : W p l e R s m args below meth c H locs cells slots Q (F0 m pc LS (.ref (al x) :: st.map (k_tv al))) := lv_astore C.1 C.2.1 hd (k_lvl_has L) hj rfl fun LS' h' => k.2 p l e R s m args below meth c Q D cy A0 al0 sc ob al H locs cells slots LS' C G F Y (k_lo_set (v := (1, x)) hn (by rw [ev]; exact h')) (k_gl_set gl (k_gl_cons.mp gs).1) (k_gl_cons.mp gs).2
    rw [List.map_cons, ev]
    exact w⟩
theorem k_lo_set2 {al : Int → Nat} {nL : Nat} {ls : List k_V} {LS : Array Slot} {i : Nat} {v : k_V} (hn : k_nol ls i = true) (h : lv_has LS nL ((i, k_tv al v) :: (k_lvl al ls).filter (fun q => !(q.1 == i) && (!(q.1 == i + 1) && !(q.1 + 1 == i && q.2.category == 2))))) : k_lo al nL ((ls.set i v).set (i + 1) (3, 0)) LS := by
  refine ⟨h.1, h.2.1, fun k w hk hw => ?_⟩
  rw [List.getElem?_set] at hk
  by_cases hi1 : i + 1 = k
  · rw [if_pos hi1] at hk
    split at hk
    · cases hk; exact absurd hw (by decide)
    · cases hk
  rw [if_neg hi1, List.getElem?_set] at hk
  by_cases hi : i = k
  · rw [if_pos hi] at hk
    subst hi
    split at hk
    · cases hk
      exact h.2.2 _ List.mem_cons_self
    · cases hk
  · rw [if_neg hi] at hk
    refine h.2.2 (k, k_tv al w) (List.mem_cons_of_mem _ (List.mem_filter.mpr ⟨k_lvl_mem hk hw, ?_⟩))
    have h1 : (k == i) = false := by simp; omega
    have h0 : (k == i + 1) = false := by simp; omega
    have h2 : (k + 1 == i && (k_tv al w).category == 2) = false := by
      by_cases hj : k + 1 = i
      · subst hj
        have h3 : (ls.getD k (3, 0)).1 ≠ 2 := by simpa [k_nol] using hn
        rw [List.getD_eq_getElem?_getD, hk] at h3
        have h4 : w.1 ≠ 2 := h3
        rw [k_cat al w hw, if_neg h4]
        simp
      · simp [hj]
    show (!(k == i) && (!(k == i + 1) && !(k + 1 == i && (k_tv al w).category == 2))) = true
    rw [h1, h0, h2]; rfl
theorem k_lstore {j : Nat} {x : Int} (hd : decode M.2.1 pc = .ok (.lstore j, 2)) (hj : j + 1 < M.2.2.1) (hn : k_nol ls j = true) (k : k_AW d M (pc + 2) ((ls.set j (2, x)).set (j + 1) (3, 0)) st A r A') : k_AW d M pc ls ((2, x) :: st) A r A' :=
  ⟨k.1, fun p l e R s m args below meth c Q D cy A0 al0 sc ob al H locs cells slots LS C G F Y L gl gs => lv_lstore C.1 C.2.1 hd (k_lvl_has L) hj rfl fun LS' h' => k.2 p l e R s m args below meth c Q D cy A0 al0 sc ob al H locs cells slots LS' C G F Y (k_lo_set2 (v := (2, x)) hn h') (k_gl_set (k_gl_set gl (k_gl_cons.mp gs).1) trivial) (k_gl_cons.mp gs).2⟩
theorem k_iinc {j : Nat} {x n : Int} (hd : decode M.2.1 pc = .ok (.iinc j n, 3)) (hj : j < M.2.2.1) (hn : k_nol ls j = true) (hl : ls[j]? = some (0, x)) (k : k_AW d M (pc + 3) (ls.set j (0, k_wr (x + n))) st A r A') : k_AW d M pc ls st A r A' :=
  ⟨k.1, fun p l e R s m args below meth c Q D cy A0 al0 sc ob al H locs cells slots LS C G F Y L gl gs => by
    obtain ⟨i, hi⟩ := List.getElem?_of_mem (k_lvl_mem (al := al) hl (by show 0 < 3; decide))
    exact lv_iinc C.1 C.2.1 hd (k_lvl_has L) hi (v := Int32.ofInt (k_wr (x + n))) (by rw [k_of_wr, Int32.ofInt_add]) hj rfl fun LS' h' => k.2 p l e R s m args below meth c Q D cy A0 al0 sc ob al H locs cells slots LS' C G F Y (k_lo_set (v := (0, k_wr (x + n))) hn h') (k_gl_set gl (k_wr_range _)) gs⟩
theorem k_iadd {x y : Int} (hd : decode M.2.1 pc = .ok (.iadd, 1)) (k : k_AW d M (pc + 1) ls ((0, k_wr (x + y)) :: st) A r A') : k_AW d M pc ls ((0, y) :: (0, x) :: st) A r A' :=
  k_pure k (fun al hx hb _ _ gs k => lv_iadd hx hb hd (by
    rw [List.map_cons] at k
    have e : k_tv al (0, k_wr (x + y)) = .int (Int32.ofInt x + Int32.ofInt y) := congrArg Value.int ((k_of_wr _).trans (Int32.ofInt_add _ _))
    rw [e] at k
    exact k)) (fun _ g => k_gl_cons.mpr ⟨k_wr_range _, (k_gl_cons.mp (k_gl_cons.mp g).2).2⟩)
theorem k_isub {x y : Int} (hd : decode M.2.1 pc = .ok (.isub, 1)) (k : k_AW d M (pc + 1) ls ((0, k_wr (x - y)) :: st) A r A') : k_AW d M pc ls ((0, y) :: (0, x) :: st) A r A' :=
  k_pure k (fun al hx hb _ _ gs k => lv_isub hx hb hd (by
    rw [List.map_cons] at k
    have e : k_tv al (0, k_wr (x - y)) = .int (Int32.ofInt x - Int32.ofInt y) := congrArg Value.int ((k_of_wr _).trans (Int32.ofInt_sub _ _))
    rw [e] at k
    exact k)) (fun _ g => k_gl_cons.mpr ⟨k_wr_range _, (k_gl_cons.mp (k_gl_cons.mp g).2).2⟩)
theorem k_imul {x y : Int} (hd : decode M.2.1 pc = .ok (.imul, 1)) (k : k_AW d M (pc + 1) ls ((0, k_wr (x * y)) :: st) A r A') : k_AW d M pc ls ((0, y) :: (0, x) :: st) A r A' :=
  k_pure k (fun al hx hb _ _ gs k => lv_imul hx hb hd (by
    rw [List.map_cons] at k
    have e : k_tv al (0, k_wr (x * y)) = .int (Int32.ofInt x * Int32.ofInt y) := congrArg Value.int ((k_of_wr _).trans (Int32.ofInt_mul _ _))
    rw [e] at k
    exact k)) (fun _ g => k_gl_cons.mpr ⟨k_wr_range _, (k_gl_cons.mp (k_gl_cons.mp g).2).2⟩)
theorem k_iand {x y : Int} (hd : decode M.2.1 pc = .ok (.iand, 1)) (k : k_AW d M (pc + 1) ls ((0, k_and x y) :: st) A r A') : k_AW d M pc ls ((0, y) :: (0, x) :: st) A r A' :=
  k_pure k (fun al hx hb _ _ gs k => lv_iand hx hb hd (by
    rw [List.map_cons] at k
    have e : k_tv al (0, k_and x y) = .int (Int32.ofInt x &&& Int32.ofInt y) := congrArg Value.int (Int32.ofInt_toInt _)
    rw [e] at k
    exact k)) (fun _ g => k_gl_cons.mpr ⟨k_gi _ _, (k_gl_cons.mp (k_gl_cons.mp g).2).2⟩)
theorem k_ior {x y : Int} (hd : decode M.2.1 pc = .ok (.ior, 1)) (k : k_AW d M (pc + 1) ls ((0, k_or x y) :: st) A r A') : k_AW d M pc ls ((0, y) :: (0, x) :: st) A r A' :=
  k_pure k (fun al hx hb _ _ gs k => lv_ior hx hb hd (by
    rw [List.map_cons] at k
    have e : k_tv al (0, k_or x y) = .int (Int32.ofInt x ||| Int32.ofInt y) := congrArg Value.int (Int32.ofInt_toInt _)
    rw [e] at k
    exact k)) (fun _ g => k_gl_cons.mpr ⟨k_gi _ _, (k_gl_cons.mp (k_gl_cons.mp g).2).2⟩)
theorem k_ishl {x y : Int} (hd : decode M.2.1 pc = .ok (.ishl, 1)) (k : k_AW d M (pc + 1) ls ((0, k_shl x y) :: st) A r A') : k_AW d M pc ls ((0, y) :: (0, x) :: st) A r A' :=
  k_pure k (fun al hx hb _ _ gs k => lv_ishl hx hb hd (by
    rw [List.map_cons] at k
    have e : k_tv al (0, k_shl x y) = .int (Int32.ofInt x <<< (Int32.ofInt y &&& 31)) := congrArg Value.int (Int32.ofInt_toInt _)
    rw [e] at k
    exact k)) (fun _ g => k_gl_cons.mpr ⟨k_gi _ _, (k_gl_cons.mp (k_gl_cons.mp g).2).2⟩)
theorem k_ishr {x y : Int} (hd : decode M.2.1 pc = .ok (.ishr, 1)) (k : k_AW d M (pc + 1) ls ((0, k_shr x y) :: st) A r A') : k_AW d M pc ls ((0, y) :: (0, x) :: st) A r A' :=
  k_pure k (fun al hx hb _ _ gs k => lv_ishr hx hb hd (by
    rw [List.map_cons] at k
    have e : k_tv al (0, k_shr x y) = .int (Int32.ofInt x >>> (Int32.ofInt y &&& 31)) := congrArg Value.int (Int32.ofInt_toInt _)
    rw [e] at k
    exact k)) (fun _ g => k_gl_cons.mpr ⟨k_gi _ _, (k_gl_cons.mp (k_gl_cons.mp g).2).2⟩)
theorem k_land {x y : Int} (hd : decode M.2.1 pc = .ok (.land, 1)) (k : k_AW d M (pc + 1) ls ((2, k_landd x y) :: st) A r A') : k_AW d M pc ls ((2, y) :: (2, x) :: st) A r A' :=
  k_pure k (fun al hx hb _ _ gs k => lv_land hx hb hd (by
    rw [List.map_cons] at k
    have e : k_tv al (2, k_landd x y) = .long (Int64.ofInt x &&& Int64.ofInt y) := congrArg Value.long (Int64.ofInt_toInt _)
    rw [e] at k
    exact k)) (fun _ g => k_gl_cons.mpr ⟨k_gl64 _ _, (k_gl_cons.mp (k_gl_cons.mp g).2).2⟩)
theorem k_lor {x y : Int} (hd : decode M.2.1 pc = .ok (.lor, 1)) (k : k_AW d M (pc + 1) ls ((2, k_lorr x y) :: st) A r A') : k_AW d M pc ls ((2, y) :: (2, x) :: st) A r A' :=
  k_pure k (fun al hx hb _ _ gs k => lv_lor hx hb hd (by
    rw [List.map_cons] at k
    have e : k_tv al (2, k_lorr x y) = .long (Int64.ofInt x ||| Int64.ofInt y) := congrArg Value.long (Int64.ofInt_toInt _)
    rw [e] at k
    exact k)) (fun _ g => k_gl_cons.mpr ⟨k_gl64 _ _, (k_gl_cons.mp (k_gl_cons.mp g).2).2⟩)
theorem k_iushr {x y : Int} (hd : decode M.2.1 pc = .ok (.iushr, 1)) (k : k_AW d M (pc + 1) ls ((0, k_ushr x y) :: st) A r A') : k_AW d M pc ls ((0, y) :: (0, x) :: st) A r A' :=
  k_pure k (fun al hx hb _ _ gs k => lv_iushr hx hb hd (Int32.ofInt_toInt _).symm k) (fun _ g => k_gl_cons.mpr ⟨k_gi _ _, (k_gl_cons.mp (k_gl_cons.mp g).2).2⟩)
theorem k_lshl_ {x y : Int} (hd : decode M.2.1 pc = .ok (.lshl, 1)) (k : k_AW d M (pc + 1) ls ((2, k_lshl x y) :: st) A r A') : k_AW d M pc ls ((0, y) :: (2, x) :: st) A r A' :=
  k_pure k (fun al hx hb _ _ gs k => lv_lshl hx hb hd (Int64.ofInt_toInt _).symm k) (fun _ g => k_gl_cons.mpr ⟨k_gl64 _ _, (k_gl_cons.mp (k_gl_cons.mp g).2).2⟩)
theorem k_lshr_ {x y : Int} (hd : decode M.2.1 pc = .ok (.lshr, 1)) (k : k_AW d M (pc + 1) ls ((2, k_lshr x y) :: st) A r A') : k_AW d M pc ls ((0, y) :: (2, x) :: st) A r A' :=
  k_pure k (fun al hx hb _ _ gs k => lv_lshr hx hb hd (Int64.ofInt_toInt _).symm k) (fun _ g => k_gl_cons.mpr ⟨k_gl64 _ _, (k_gl_cons.mp (k_gl_cons.mp g).2).2⟩)
theorem k_lushr_ {x y : Int} (hd : decode M.2.1 pc = .ok (.lushr, 1)) (k : k_AW d M (pc + 1) ls ((2, k_lushr x y) :: st) A r A') : k_AW d M pc ls ((0, y) :: (2, x) :: st) A r A' :=
  k_pure k (fun al hx hb _ _ gs k => lv_lushr hx hb hd (Int64.ofInt_toInt _).symm k) (fun _ g => k_gl_cons.mpr ⟨k_gl64 _ _, (k_gl_cons.mp (k_gl_cons.mp g).2).2⟩)
theorem k_l2i_ {x : Int} (hd : decode M.2.1 pc = .ok (.l2i, 1)) (k : k_AW d M (pc + 1) ls ((0, k_l2i x) :: st) A r A') : k_AW d M pc ls ((2, x) :: st) A r A' :=
  k_pure k (fun al hx hb _ _ gs k => lv_l2i hx hb hd (Int32.ofInt_toInt _).symm k) (fun _ g => k_gl_cons.mpr ⟨k_gi _ _, (k_gl_cons.mp g).2⟩)
theorem k_ineg {x : Int} (hd : decode M.2.1 pc = .ok (.ineg, 1)) (k : k_AW d M (pc + 1) ls ((0, k_wr (-x)) :: st) A r A') : k_AW d M pc ls ((0, x) :: st) A r A' :=
  k_pure k (fun al hx hb _ _ gs k => lv_ineg hx hb hd (by
    rw [List.map_cons] at k
    have e : k_tv al (0, k_wr (-x)) = .int (-Int32.ofInt x) := congrArg Value.int ((k_of_wr _).trans (Int32.ofInt_neg _))
    rw [e] at k
    exact k)) (fun _ g => k_gl_cons.mpr ⟨k_wr_range _, (k_gl_cons.mp g).2⟩)
theorem k_ine0 {n : Nat} {y : Int} (g : k_gv n (0, y)) (h : y ≠ 0) : ¬ Int32.ofInt y = 0 := fun e => h ((k_ieq g (k_g00 n)).mp e)
theorem k_idiv {x y : Int} (hd : decode M.2.1 pc = .ok (.idiv, 1)) (hy : y ≠ 0) (k : k_AW d M (pc + 1) ls ((0, k_wr (x.tdiv y)) :: st) A r A') : k_AW d M pc ls ((0, y) :: (0, x) :: st) A r A' :=
  k_pure k (fun al hx hb _ _ gs k => by
    have gy := (k_gl_cons.mp gs).1
    have gx := (k_gl_cons.mp (k_gl_cons.mp gs).2).1
    refine lv_idiv hx hb hd (k_ine0 gy hy) ?_
    rw [List.map_cons] at k
    have e : k_tv al (0, k_wr (x.tdiv y)) = .int (Int32.ofInt x / Int32.ofInt y) := congrArg Value.int (by
      rw [k_of_wr, ← Int32.toInt_inj, Int32.toInt_div, k_i0 gx, k_i0 gy, Int32.toInt_ofInt])
    rw [e] at k
    exact k) (fun _ g => k_gl_cons.mpr ⟨k_wr_range _, (k_gl_cons.mp (k_gl_cons.mp g).2).2⟩)
theorem k_irem {x y : Int} (hd : decode M.2.1 pc = .ok (.irem, 1)) (hy : y ≠ 0) (k : k_AW d M (pc + 1) ls ((0, k_wr (x.tmod y)) :: st) A r A') : k_AW d M pc ls ((0, y) :: (0, x) :: st) A r A' :=
  k_pure k (fun al hx hb _ _ gs k => by
    have gy := (k_gl_cons.mp gs).1
    have gx := (k_gl_cons.mp (k_gl_cons.mp gs).2).1
    refine lv_irem hx hb hd (k_ine0 gy hy) ?_
    rw [List.map_cons] at k
    have e : k_tv al (0, k_wr (x.tmod y)) = .int (Int32.ofInt x - Int32.ofInt x / Int32.ofInt y * Int32.ofInt y) := congrArg Value.int (by
      have h1 : Int32.ofInt x / Int32.ofInt y = Int32.ofInt (x.tdiv y) := by
        rw [← Int32.toInt_inj, Int32.toInt_div, k_i0 gx, k_i0 gy, Int32.toInt_ofInt]
      rw [k_of_wr, h1, ← Int32.ofInt_mul, ← Int32.ofInt_sub, Int.tmod_def, Int.mul_comm])
    rw [e] at k
    exact k) (fun _ g => k_gl_cons.mpr ⟨k_wr_range _, (k_gl_cons.mp (k_gl_cons.mp g).2).2⟩)
theorem k_i2l {x : Int} (hd : decode M.2.1 pc = .ok (.i2l, 1)) (k : k_AW d M (pc + 1) ls ((2, x) :: st) A r A') : k_AW d M pc ls ((0, x) :: st) A r A' :=
  k_pure k (fun al hx hb _ _ gs k => by
    have gx : k_gv (k_N A) (0, x) := (k_gl_cons.mp gs).1
    refine lv_i2l hx hb hd ?_ k
    rw [← Int64.toInt_inj, Int32.toInt_toInt64, k_i0 gx]
    exact (Int64.toInt_ofInt_of_le (Int.le_trans (by decide) gx.1) (Int.lt_of_lt_of_le gx.2 (by decide))).symm) (fun _ g => k_gl_cons.mpr ⟨⟨Int.le_trans (by decide) (k_gl_cons.mp g).1.1, Int.lt_of_lt_of_le (k_gl_cons.mp g).1.2 (by decide)⟩, (k_gl_cons.mp g).2⟩)
theorem k_i2b {x : Int} (hd : decode M.2.1 pc = .ok (.i2b, 1)) (k : k_AW d M (pc + 1) ls ((0, k_b8 x) :: st) A r A') : k_AW d M pc ls ((0, x) :: st) A r A' :=
  k_pure k (fun al hx hb _ _ gs k => lv_i2b hx hb hd (Int32.ofInt_toInt _).symm k) (fun _ g => k_gl_cons.mpr ⟨k_gi _ _, (k_gl_cons.mp g).2⟩)
theorem k_i2c {x : Int} (hd : decode M.2.1 pc = .ok (.i2c, 1)) (k : k_AW d M (pc + 1) ls ((0, k_c16 x) :: st) A r A') : k_AW d M pc ls ((0, x) :: st) A r A' :=
  k_pure k (fun al hx hb _ _ gs k => lv_i2c hx hb hd (Int32.ofInt_toInt _).symm k) (fun _ g => k_gl_cons.mpr ⟨k_gi _ _, (k_gl_cons.mp g).2⟩)
theorem k_lcmp {x y : Int} (hd : decode M.2.1 pc = .ok (.lcmp, 1)) (k : k_AW d M (pc + 1) ls ((0, if y < x then 1 else if x = y then 0 else -1) :: st) A r A') : k_AW d M pc ls ((2, y) :: (2, x) :: st) A r A' :=
  k_pure k (fun al hx hb _ _ gs k => by
    have gy := (k_gl_cons.mp gs).1
    have gx := (k_gl_cons.mp (k_gl_cons.mp gs).2).1
    refine W.lcmp hx hb hd ?_
    rw [List.map_cons] at k
    have e : k_tv al (0, if y < x then 1 else if x = y then 0 else -1) = .int (lg_cmp (Int64.ofInt x) (Int64.ofInt y)) := congrArg Value.int (by
      unfold lg_cmp
      have h1 : Int64.ofInt x > Int64.ofInt y ↔ y < x := by rw [gt_iff_lt, Int64.lt_iff_toInt_lt, k_l0 gx, k_l0 gy]
      have h2 : Int64.ofInt x = Int64.ofInt y ↔ x = y := by rw [← Int64.toInt_inj, k_l0 gx, k_l0 gy]
      by_cases c1 : y < x
      · rw [if_pos c1, if_pos (h1.mpr c1)]; rfl
      · rw [if_neg c1, if_neg (fun z => c1 (h1.mp z))]
        by_cases c2 : x = y
        · rw [if_pos c2, if_pos (h2.mpr c2)]; rfl
        · rw [if_neg c2, if_neg (fun z => c2 (h2.mp z))]; rfl)
    rw [e] at k
    exact k) (fun _ g => k_gl_cons.mpr ⟨by
      by_cases c1 : y < x
      · rw [if_pos c1]; exact ⟨by decide, by decide⟩
      · rw [if_neg c1]; split <;> exact ⟨by decide, by decide⟩, (k_gl_cons.mp (k_gl_cons.mp g).2).2⟩)
theorem k_dup {v : k_V} (hd : decode M.2.1 pc = .ok (.dup, 1)) (hv : v.1 < 2) (k : k_AW d M (pc + 1) ls (v :: v :: st) A r A') : k_AW d M pc ls (v :: st) A r A' :=
  k_pure k (fun al hx hb _ _ gs k => lv_dup hx hb hd (by rw [k_cat al v (by omega), if_neg (by omega)]) k) (fun _ g => k_gl_cons.mpr ⟨(k_gl_cons.mp g).1, g⟩)
theorem k_pop {v : k_V} (hd : decode M.2.1 pc = .ok (.pop, 1)) (hv : v.1 < 2) (k : k_AW d M (pc + 1) ls st A r A') : k_AW d M pc ls (v :: st) A r A' :=
  k_pure k (fun al hx hb _ _ gs k => lv_pop hx hb hd (by rw [k_cat al v (by omega), if_neg (by omega)]) k) (fun _ g => (k_gl_cons.mp g).2)
theorem k_dup2 {v w : k_V} (hd : decode M.2.1 pc = .ok (.dup2, 1)) (hv : v.1 < 2) (hw : w.1 < 2) (k : k_AW d M (pc + 1) ls (v :: w :: v :: w :: st) A r A') : k_AW d M pc ls (v :: w :: st) A r A' :=
  k_pure k (fun al hx hb _ _ gs k => lv_dup2_11 hx hb hd (by rw [k_cat al v (by omega), if_neg (by omega)]) (by rw [k_cat al w (by omega), if_neg (by omega)]) k) (fun _ g => k_gl_cons.mpr ⟨(k_gl_cons.mp g).1, k_gl_cons.mpr ⟨(k_gl_cons.mp (k_gl_cons.mp g).2).1, g⟩⟩)
theorem k_goto {off : Int} {tgt : Nat} (hd : decode M.2.1 pc = .ok (.goto off, 3)) (ht : (pc : Int) + off = (tgt : Int)) (k : k_AW d M tgt ls st A r A') : k_AW d M pc ls st A r A' :=
  k_pure k (fun al hx hb _ _ gs k => lv_goto hx hb hd ht k) (fun _ g => g)
theorem k_ret {x : Int} {ty : FieldType} (hd : decode M.2.1 pc = .ok (.ireturn, 1)) (hr : M.2.2.2 = some ty) (hq : k_rt M = 0) (hn : narrow ty (.int (Int32.ofInt x)) = .int (Int32.ofInt x)) : k_AW d M pc ls [(0, x)] A x A :=
  ⟨k_le_rf A, fun p l e R s m args below meth c Q D cy A0 al0 sc ob al H locs cells slots LS C G F Y L gl gs => F.2.2 al H locs cells slots pc LS _ Y L.1 (Or.inr (Or.inl ⟨ty, hr, hd, rfl, hn, (k_gl_cons.mp gs).1, hq⟩))⟩
theorem k_retl {x : Int} (hd : decode M.2.1 pc = .ok (.lreturn, 1)) (hr : M.2.2.2 = some .long) (hq : k_nothr M = true) : k_AW d M pc ls [(2, x)] A x A :=
  ⟨k_le_rf A, fun p l e R s m args below meth c Q D cy A0 al0 sc ob al H locs cells slots LS C G F Y L gl gs => F.2.2 al H locs cells slots pc LS _ Y L.1 (Or.inr (Or.inr (Or.inr ⟨hq, hr, hd, rfl, (k_gl_cons.mp gs).1⟩)))⟩
theorem k_retv (hd : decode M.2.1 pc = .ok (.return_, 1)) (hr : M.2.2.2 = none) : k_AW d M pc ls [] A 0 A :=
  ⟨k_le_rf A, fun p l e R s m args below meth c Q D cy A0 al0 sc ob al H locs cells slots LS C G F Y L gl gs => F.2.2 al H locs cells slots pc LS _ Y L.1 (Or.inl ⟨hr, hd, rfl, rfl⟩)⟩
theorem k_throw {ik is j : Nat} {tx : String} (hM : k_nothr M = false) (d0 : decode M.2.1 pc = .ok (.new ik, 3)) (d3 : decode M.2.1 (pc + 3) = .ok (.dup, 1)) (d4 : decode M.2.1 (pc + 4) = .ok (.ldc is, 2)) (d6 : decode M.2.1 (pc + 6) = .ok (.invokespecial 211, 3)) (d9 : decode M.2.1 (pc + 9) = .ok (.athrow, 1)) (hj : k_SR[j]? = some (M.1.cls, is, tx)) (hw : Cond.classLink M.1.cls ik "java/util/NoSuchElementException" ∈ k_GW) : k_AW d M pc ls [] A k_EXC A :=
  ⟨k_le_rf A, fun p l e R s m args below meth c Q D cy A0 al0 sc ob al H locs cells slots LS C G F Y L gl gs => F.2.2 al H locs cells slots pc LS _ Y L.1 (Or.inr (Or.inr (Or.inl ⟨hM, rfl, rfl, ik, is, j, tx, d0, d3, d4, d6, d9, hj, hw⟩)))⟩
theorem k_icmp_eq {x y : Int} {off : Int} {tgt : Nat} (hd : decode M.2.1 pc = .ok (.if_icmp .eq off, 3)) (ht : (pc : Int) + off = (tgt : Int)) (kt : x = y → k_AW d M tgt ls st A r A') (kf : ¬ (x = y) → k_AW d M (pc + 3) ls st A r A') : k_AW d M pc ls ((0, y) :: (0, x) :: st) A r A' := by
  by_cases h : x = y
  · exact k_pure (kt h) (fun al hx hb _ _ gs k => by
      have gy := (k_gl_cons.mp gs).1
      have gx := (k_gl_cons.mp (k_gl_cons.mp gs).2).1
      exact lv_icmp_eq hx hb hd ht (fun _ => k) (fun z => absurd (((k_ieq gx gy)).mpr h) z)) (fun _ g => (k_gl_cons.mp (k_gl_cons.mp g).2).2)
  · exact k_pure (kf h) (fun al hx hb _ _ gs k => by
      have gy := (k_gl_cons.mp gs).1
      have gx := (k_gl_cons.mp (k_gl_cons.mp gs).2).1
      exact lv_icmp_eq hx hb hd ht (fun z => absurd (((k_ieq gx gy)).mp z) h) (fun _ => k)) (fun _ g => (k_gl_cons.mp (k_gl_cons.mp g).2).2)
theorem k_if_eq {x : Int} {off : Int} {tgt : Nat} (hd : decode M.2.1 pc = .ok (.ifCond .eq off, 3)) (ht : (pc : Int) + off = (tgt : Int)) (kt : x = 0 → k_AW d M tgt ls st A r A') (kf : ¬ (x = 0) → k_AW d M (pc + 3) ls st A r A') : k_AW d M pc ls ((0, x) :: st) A r A' := by
  by_cases h : x = 0
  · exact k_pure (kt h) (fun al hx hb _ _ gs k => by
      have gx := (k_gl_cons.mp gs).1
      have gy := k_g00 (k_N A)
      exact lv_if_eq hx hb hd ht (fun _ => k) (fun z => absurd (((k_ieq gx gy)).mpr h) z)) (fun _ g => (k_gl_cons.mp g).2)
  · exact k_pure (kf h) (fun al hx hb _ _ gs k => by
      have gx := (k_gl_cons.mp gs).1
      have gy := k_g00 (k_N A)
      exact lv_if_eq hx hb hd ht (fun z => absurd (((k_ieq gx gy)).mp z) h) (fun _ => k)) (fun _ g => (k_gl_cons.mp g).2)
theorem k_icmp_ne {x y : Int} {off : Int} {tgt : Nat} (hd : decode M.2.1 pc = .ok (.if_icmp .ne off, 3)) (ht : (pc : Int) + off = (tgt : Int)) (kt : ¬ x = y → k_AW d M tgt ls st A r A') (kf : ¬ (¬ x = y) → k_AW d M (pc + 3) ls st A r A') : k_AW d M pc ls ((0, y) :: (0, x) :: st) A r A' := by
  by_cases h : ¬ x = y
  · exact k_pure (kt h) (fun al hx hb _ _ gs k => by
      have gy := (k_gl_cons.mp gs).1
      have gx := (k_gl_cons.mp (k_gl_cons.mp gs).2).1
      exact lv_icmp_ne hx hb hd ht (fun _ => k) (fun z => (h ((k_ieq gx gy).mp z)).elim)) (fun _ g => (k_gl_cons.mp (k_gl_cons.mp g).2).2)
  · exact k_pure (kf h) (fun al hx hb _ _ gs k => by
      have gy := (k_gl_cons.mp gs).1
      have gx := (k_gl_cons.mp (k_gl_cons.mp gs).2).1
      exact lv_icmp_ne hx hb hd ht (fun z => absurd ((((not_congr (k_ieq gx gy)))).mp z) h) (fun _ => k)) (fun _ g => (k_gl_cons.mp (k_gl_cons.mp g).2).2)
theorem k_if_ne {x : Int} {off : Int} {tgt : Nat} (hd : decode M.2.1 pc = .ok (.ifCond .ne off, 3)) (ht : (pc : Int) + off = (tgt : Int)) (kt : ¬ x = 0 → k_AW d M tgt ls st A r A') (kf : ¬ (¬ x = 0) → k_AW d M (pc + 3) ls st A r A') : k_AW d M pc ls ((0, x) :: st) A r A' := by
  by_cases h : ¬ x = 0
  · exact k_pure (kt h) (fun al hx hb _ _ gs k => by
      have gx := (k_gl_cons.mp gs).1
      have gy := k_g00 (k_N A)
      exact lv_if_ne hx hb hd ht (fun _ => k) (fun z => (h ((k_ieq gx gy).mp z)).elim)) (fun _ g => (k_gl_cons.mp g).2)
  · exact k_pure (kf h) (fun al hx hb _ _ gs k => by
      have gx := (k_gl_cons.mp gs).1
      have gy := k_g00 (k_N A)
      exact lv_if_ne hx hb hd ht (fun z => absurd ((((not_congr (k_ieq gx gy)))).mp z) h) (fun _ => k)) (fun _ g => (k_gl_cons.mp g).2)
theorem k_icmp_lt {x y : Int} {off : Int} {tgt : Nat} (hd : decode M.2.1 pc = .ok (.if_icmp .lt off, 3)) (ht : (pc : Int) + off = (tgt : Int)) (kt : x < y → k_AW d M tgt ls st A r A') (kf : ¬ (x < y) → k_AW d M (pc + 3) ls st A r A') : k_AW d M pc ls ((0, y) :: (0, x) :: st) A r A' := by
  by_cases h : x < y
  · exact k_pure (kt h) (fun al hx hb _ _ gs k => by
      have gy := (k_gl_cons.mp gs).1
      have gx := (k_gl_cons.mp (k_gl_cons.mp gs).2).1
      exact lv_icmp_lt hx hb hd ht (fun _ => k) (fun z => absurd (((k_ilt gx gy)).mpr h) z)) (fun _ g => (k_gl_cons.mp (k_gl_cons.mp g).2).2)
  · exact k_pure (kf h) (fun al hx hb _ _ gs k => by
      have gy := (k_gl_cons.mp gs).1
      have gx := (k_gl_cons.mp (k_gl_cons.mp gs).2).1
      exact lv_icmp_lt hx hb hd ht (fun z => absurd (((k_ilt gx gy)).mp z) h) (fun _ => k)) (fun _ g => (k_gl_cons.mp (k_gl_cons.mp g).2).2)
theorem k_if_lt {x : Int} {off : Int} {tgt : Nat} (hd : decode M.2.1 pc = .ok (.ifCond .lt off, 3)) (ht : (pc : Int) + off = (tgt : Int)) (kt : x < 0 → k_AW d M tgt ls st A r A') (kf : ¬ (x < 0) → k_AW d M (pc + 3) ls st A r A') : k_AW d M pc ls ((0, x) :: st) A r A' := by
  by_cases h : x < 0
  · exact k_pure (kt h) (fun al hx hb _ _ gs k => by
      have gx := (k_gl_cons.mp gs).1
      have gy := k_g00 (k_N A)
      exact lv_if_lt hx hb hd ht (fun _ => k) (fun z => absurd (((k_ilt gx gy)).mpr h) z)) (fun _ g => (k_gl_cons.mp g).2)
  · exact k_pure (kf h) (fun al hx hb _ _ gs k => by
      have gx := (k_gl_cons.mp gs).1
      have gy := k_g00 (k_N A)
      exact lv_if_lt hx hb hd ht (fun z => absurd (((k_ilt gx gy)).mp z) h) (fun _ => k)) (fun _ g => (k_gl_cons.mp g).2)
theorem k_icmp_ge {x y : Int} {off : Int} {tgt : Nat} (hd : decode M.2.1 pc = .ok (.if_icmp .ge off, 3)) (ht : (pc : Int) + off = (tgt : Int)) (kt : y ≤ x → k_AW d M tgt ls st A r A') (kf : ¬ (y ≤ x) → k_AW d M (pc + 3) ls st A r A') : k_AW d M pc ls ((0, y) :: (0, x) :: st) A r A' := by
  by_cases h : y ≤ x
  · exact k_pure (kt h) (fun al hx hb _ _ gs k => by
      have gy := (k_gl_cons.mp gs).1
      have gx := (k_gl_cons.mp (k_gl_cons.mp gs).2).1
      exact lv_icmp_ge hx hb hd ht (fun _ => k) (fun z => absurd (((k_ile gy gx)).mpr h) z)) (fun _ g => (k_gl_cons.mp (k_gl_cons.mp g).2).2)
  · exact k_pure (kf h) (fun al hx hb _ _ gs k => by
      have gy := (k_gl_cons.mp gs).1
      have gx := (k_gl_cons.mp (k_gl_cons.mp gs).2).1
      exact lv_icmp_ge hx hb hd ht (fun z => absurd (((k_ile gy gx)).mp z) h) (fun _ => k)) (fun _ g => (k_gl_cons.mp (k_gl_cons.mp g).2).2)
theorem k_if_ge {x : Int} {off : Int} {tgt : Nat} (hd : decode M.2.1 pc = .ok (.ifCond .ge off, 3)) (ht : (pc : Int) + off = (tgt : Int)) (kt : 0 ≤ x → k_AW d M tgt ls st A r A') (kf : ¬ (0 ≤ x) → k_AW d M (pc + 3) ls st A r A') : k_AW d M pc ls ((0, x) :: st) A r A' := by
  by_cases h : 0 ≤ x
  · exact k_pure (kt h) (fun al hx hb _ _ gs k => by
      have gx := (k_gl_cons.mp gs).1
      have gy := k_g00 (k_N A)
      exact lv_if_ge hx hb hd ht (fun _ => k) (fun z => absurd (((k_ile gy gx)).mpr h) z)) (fun _ g => (k_gl_cons.mp g).2)
  · exact k_pure (kf h) (fun al hx hb _ _ gs k => by
      have gx := (k_gl_cons.mp gs).1
      have gy := k_g00 (k_N A)
      exact lv_if_ge hx hb hd ht (fun z => absurd (((k_ile gy gx)).mp z) h) (fun _ => k)) (fun _ g => (k_gl_cons.mp g).2)
theorem k_icmp_gt {x y : Int} {off : Int} {tgt : Nat} (hd : decode M.2.1 pc = .ok (.if_icmp .gt off, 3)) (ht : (pc : Int) + off = (tgt : Int)) (kt : y < x → k_AW d M tgt ls st A r A') (kf : ¬ (y < x) → k_AW d M (pc + 3) ls st A r A') : k_AW d M pc ls ((0, y) :: (0, x) :: st) A r A' := by
  by_cases h : y < x
  · exact k_pure (kt h) (fun al hx hb _ _ gs k => by
      have gy := (k_gl_cons.mp gs).1
      have gx := (k_gl_cons.mp (k_gl_cons.mp gs).2).1
      exact lv_icmp_gt hx hb hd ht (fun _ => k) (fun z => absurd (((k_ilt gy gx)).mpr h) z)) (fun _ g => (k_gl_cons.mp (k_gl_cons.mp g).2).2)
  · exact k_pure (kf h) (fun al hx hb _ _ gs k => by
      have gy := (k_gl_cons.mp gs).1
      have gx := (k_gl_cons.mp (k_gl_cons.mp gs).2).1
      exact lv_icmp_gt hx hb hd ht (fun z => absurd (((k_ilt gy gx)).mp z) h) (fun _ => k)) (fun _ g => (k_gl_cons.mp (k_gl_cons.mp g).2).2)
theorem k_if_gt {x : Int} {off : Int} {tgt : Nat} (hd : decode M.2.1 pc = .ok (.ifCond .gt off, 3)) (ht : (pc : Int) + off = (tgt : Int)) (kt : 0 < x → k_AW d M tgt ls st A r A') (kf : ¬ (0 < x) → k_AW d M (pc + 3) ls st A r A') : k_AW d M pc ls ((0, x) :: st) A r A' := by
  by_cases h : 0 < x
  · exact k_pure (kt h) (fun al hx hb _ _ gs k => by
      have gx := (k_gl_cons.mp gs).1
      have gy := k_g00 (k_N A)
      exact lv_if_gt hx hb hd ht (fun _ => k) (fun z => absurd (((k_ilt gy gx)).mpr h) z)) (fun _ g => (k_gl_cons.mp g).2)
  · exact k_pure (kf h) (fun al hx hb _ _ gs k => by
      have gx := (k_gl_cons.mp gs).1
      have gy := k_g00 (k_N A)
      exact lv_if_gt hx hb hd ht (fun z => absurd (((k_ilt gy gx)).mp z) h) (fun _ => k)) (fun _ g => (k_gl_cons.mp g).2)
theorem k_icmp_le {x y : Int} {off : Int} {tgt : Nat} (hd : decode M.2.1 pc = .ok (.if_icmp .le off, 3)) (ht : (pc : Int) + off = (tgt : Int)) (kt : x ≤ y → k_AW d M tgt ls st A r A') (kf : ¬ (x ≤ y) → k_AW d M (pc + 3) ls st A r A') : k_AW d M pc ls ((0, y) :: (0, x) :: st) A r A' := by
  by_cases h : x ≤ y
  · exact k_pure (kt h) (fun al hx hb _ _ gs k => by
      have gy := (k_gl_cons.mp gs).1
      have gx := (k_gl_cons.mp (k_gl_cons.mp gs).2).1
      exact lv_icmp_le hx hb hd ht (fun _ => k) (fun z => absurd (((k_ile gx gy)).mpr h) z)) (fun _ g => (k_gl_cons.mp (k_gl_cons.mp g).2).2)
  · exact k_pure (kf h) (fun al hx hb _ _ gs k => by
      have gy := (k_gl_cons.mp gs).1
      have gx := (k_gl_cons.mp (k_gl_cons.mp gs).2).1
      exact lv_icmp_le hx hb hd ht (fun z => absurd (((k_ile gx gy)).mp z) h) (fun _ => k)) (fun _ g => (k_gl_cons.mp (k_gl_cons.mp g).2).2)
theorem k_if_le {x : Int} {off : Int} {tgt : Nat} (hd : decode M.2.1 pc = .ok (.ifCond .le off, 3)) (ht : (pc : Int) + off = (tgt : Int)) (kt : x ≤ 0 → k_AW d M tgt ls st A r A') (kf : ¬ (x ≤ 0) → k_AW d M (pc + 3) ls st A r A') : k_AW d M pc ls ((0, x) :: st) A r A' := by
  by_cases h : x ≤ 0
  · exact k_pure (kt h) (fun al hx hb _ _ gs k => by
      have gx := (k_gl_cons.mp gs).1
      have gy := k_g00 (k_N A)
      exact lv_if_le hx hb hd ht (fun _ => k) (fun z => absurd (((k_ile gx gy)).mpr h) z)) (fun _ g => (k_gl_cons.mp g).2)
  · exact k_pure (kf h) (fun al hx hb _ _ gs k => by
      have gx := (k_gl_cons.mp gs).1
      have gy := k_g00 (k_N A)
      exact lv_if_le hx hb hd ht (fun z => absurd (((k_ile gx gy)).mp z) h) (fun _ => k)) (fun _ g => (k_gl_cons.mp g).2)
theorem k_swin {dflt lo hi : Int} {offs : Array Int} {len : Nat} {x off : Int} {tgt : Nat} (hd : decode M.2.1 pc = .ok (.tableswitch dflt lo hi offs, len)) (h1 : lo ≤ x) (h2 : x ≤ hi) (ho : offs[(x - lo).toNat]? = some off) (ht : (pc : Int) + off = (tgt : Int)) (k : k_AW d M tgt ls st A r A') : k_AW d M pc ls ((0, x) :: st) A r A' :=
  k_pure k (fun al hx hb _ _ gs k => by
    have gx := k_i0 (k_gl_cons.mp gs).1
    exact lv_tableIn hx hb hd (by rw [gx]; omega) (by rw [gx]; omega) (by rw [gx]; exact ho) ht k) (fun _ g => (k_gl_cons.mp g).2)
theorem k_swout {dflt lo hi : Int} {offs : Array Int} {len : Nat} {x : Int} {tgt : Nat} (hd : decode M.2.1 pc = .ok (.tableswitch dflt lo hi offs, len)) (h : x < lo ∨ hi < x) (ht : (pc : Int) + dflt = (tgt : Int)) (k : k_AW d M tgt ls st A r A') : k_AW d M pc ls ((0, x) :: st) A r A' :=
  k_pure k (fun al hx hb _ _ gs k => by
    have gx := k_i0 (k_gl_cons.mp gs).1
    exact lv_tableOut hx hb hd (by rw [gx]; exact h) ht k) (fun _ g => (k_gl_cons.mp g).2)
end
