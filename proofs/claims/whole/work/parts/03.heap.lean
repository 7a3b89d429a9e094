/-! the pure picture: values, heaps, how they stand for the machine's -/
abbrev k_V : Type := Nat × Int
abbrev k_H : Type := (Nat × Nat × Nat) × (Int → Nat × Nat) × (Int → Int → Int)
def k_N (A : k_H) : Nat := A.1.1
def k_U (A : k_H) : Nat := A.1.2.1
def k_T (A : k_H) : Nat := A.1.2.2
def k_kd (A : k_H) (a : Int) : Nat × Nat := A.2.1 a
def k_rd (A : k_H) (a i : Int) : Int := A.2.2 a i
def k_wt (A : k_H) (a i v : Int) : k_H := (A.1, A.2.1, fun b j => if b = a ∧ j = i then v else A.2.2 b j)
def k_etag (k : Nat) (i : Int) : Nat := if k < 20 then (k_ftab.getD k []).getD i.toNat 0 else if k = 22 then 2 else if k < 23 then 0 else 1
def k_dft (k : Nat) (i : Int) : Int := if k_etag k i = 1 then -1 else 0
def k_mk (A : k_H) (k len : Nat) : k_H := ((k_N A + 1, k_U A + 1, k_T A + len), (fun a => if a = (k_N A : Int) then (k, len) else A.2.1 a), fun a i => if a = (k_N A : Int) then k_dft k i else A.2.2 a i)
def k_wr (x : Int) : Int := (Int32.ofInt x).toInt
def k_wl (x : Int) : Int := (Int64.ofInt x).toInt
def k_orf (al : Int → Nat) (x : Int) : Option Nat := if x = -1 then none else some (al x)
def k_tv (al : Int → Nat) (v : k_V) : Value := match v.1 with
  | 0 => .int (Int32.ofInt v.2)
  | 1 => va_rf (k_orf al v.2)
  | _ => .long (Int64.ofInt v.2)
def k_cell (cy : Nat → ClassId) (al : Int → Nat) (k : Nat × Nat) (f : Int → Int) : va_E :=
  if k.1 < 20 then .inr (k.1, (List.range (k_ftab.getD k.1 []).length).map fun (i : Nat) => k_tv al (k_etag k.1 i, f i))
  else .inl (cy k.1, k.2, if k.1 = 22 then .inr (.inl fun (i : Nat) => Int64.ofInt (f i)) else if k.1 < 23 then .inl (fun (i : Nat) => Int32.ofInt (f i)) else .inr (.inr (.inr (.inr fun (i : Nat) => k_orf al (f i)))))
def k_ws (cy : Nat → ClassId) (al : Int → Nat) (A : k_H) : va_W := (List.range (k_N A)).map fun (a : Nat) => (al a, k_cell cy al (k_kd A a) (k_rd A a))
def k_TY (cy : Nat → ClassId) : List (ClassId × FieldType) := [(cy 20, .byte), (cy 21, .int), (cy 22, .long), (cy 23, .object RX1), (cy 24, .object RX4)]
/-- a value in its range -/
def k_gv (n : Nat) (v : k_V) : Prop := match v.1 with
  | 0 => -2147483648 ≤ v.2 ∧ v.2 < 2147483648
  | 1 => v.2 < n
  | 2 => -9223372036854775808 ≤ v.2 ∧ v.2 < 9223372036854775808
  | _ => True
def k_gl (n : Nat) (l : List k_V) : Prop := ∀ v ∈ l, k_gv n v
def k_gh (A : k_H) : Prop := ∀ a i : Int, 0 ≤ a → a < k_N A → k_gv (k_N A) (k_etag (k_kd A a).1 i, k_rd A a i)
theorem k_gv_mono {n m : Nat} (h : n ≤ m) {v : k_V} (g : k_gv n v) : k_gv m v := by
  obtain ⟨t, x⟩ := v
  match t, g with
  | 0, g => exact g
  | 1, g => exact Int.lt_of_lt_of_le (show x < (n : Int) from g) (Int.ofNat_le.mpr h)
  | 2, g => exact g
  | _ + 3, g => exact trivial
theorem k_gl_mono {n m : Nat} (h : n ≤ m) {l : List k_V} (g : k_gl n l) : k_gl m l := fun v hv => k_gv_mono h (g v hv)
theorem k_gl_cons {n : Nat} {v : k_V} {l : List k_V} : k_gl n (v :: l) ↔ k_gv n v ∧ k_gl n l := List.forall_mem_cons
theorem k_gl_nil {n : Nat} : k_gl n [] := fun _ h => absurd h List.not_mem_nil
theorem k_gl_app {n : Nat} {a b : List k_V} : k_gl n (a ++ b) ↔ k_gl n a ∧ k_gl n b := List.forall_mem_append
theorem k_gl_rev {n : Nat} {a : List k_V} : k_gl n a.reverse ↔ k_gl n a := by simp [k_gl]
theorem k_wr_range (x : Int) : -2147483648 ≤ k_wr x ∧ k_wr x < 2147483648 := ⟨Int32.le_toInt _, Int32.toInt_lt _⟩
theorem k_i32_range (x : Int32) : -2147483648 ≤ x.toInt ∧ x.toInt < 2147483648 := ⟨Int32.le_toInt _, Int32.toInt_lt _⟩
theorem k_i64_range (x : Int64) : -9223372036854775808 ≤ x.toInt ∧ x.toInt < 9223372036854775808 := ⟨Int64.le_toInt _, Int64.toInt_lt _⟩
theorem k_wr_of {x : Int} (h : -2147483648 ≤ x) (h2 : x < 2147483648) : k_wr x = x := Int32.toInt_ofInt_of_le h h2
theorem k_wl_of {x : Int} (h : -9223372036854775808 ≤ x) (h2 : x < 9223372036854775808) : k_wl x = x := Int64.toInt_ofInt_of_le h h2
theorem k_of_wr (x : Int) : Int32.ofInt (k_wr x) = Int32.ofInt x := Int32.ofInt_toInt _
theorem k_of_wl (x : Int) : Int64.ofInt (k_wl x) = Int64.ofInt x := Int64.ofInt_toInt _
/-- tv where the addresses agree -/
theorem k_tv_al {al al' : Int → Nat} {n : Nat} (h : ∀ a : Int, a < n → al' a = al a) {v : k_V} (g : k_gv n v) (hv : v.1 < 3) : k_tv al' v = k_tv al v := by
  obtain ⟨t, x⟩ := v
  match t, g, hv with
  | 0, _, _ => rfl
  | 1, g, _ =>
    show va_rf (k_orf al' x) = va_rf (k_orf al x)
    unfold k_orf
    rw [h x g]
  | 2, _, _ => rfl
theorem k_orf_al {al al' : Int → Nat} {n : Nat} (h : ∀ a : Int, a < n → al' a = al a) {x : Int} (g : x < n) : k_orf al' x = k_orf al x := by
  unfold k_orf
  rw [h x g]
theorem k_etag_lt (k : Nat) (i : Int) : k_etag k i < 3 := by
  unfold k_etag
  split
  · have h : ∀ k : Nat, k < 20 → ∀ x ∈ k_ftab.getD k [], x < 3 := by decide +kernel
    rename_i hk
    rw [List.getD_eq_getElem?_getD]
    cases hx : (k_ftab.getD k [])[i.toNat]? with
    | none => exact (by decide : 0 < 3)
    | some x => exact h k hk x (List.mem_of_getElem? hx)
  · split
    · decide
    · split
      · decide
      · decide
theorem k_cell_al {cy : Nat → ClassId} {al al' : Int → Nat} {n : Nat} (h : ∀ a : Int, a < n → al' a = al a) {k : Nat × Nat} {f : Int → Int} (g : ∀ i : Int, k_gv n (k_etag k.1 i, f i)) : k_cell cy al' k f = k_cell cy al k f := by
  unfold k_cell
  split
  · congr 2
    exact List.map_congr_left fun i _ => k_tv_al h (g i) (k_etag_lt _ _)
  · rename_i h20
    congr 3
    split
    · rfl
    · split
      · rfl
      · congr 4
        funext i
        unfold k_orf
        have e : k_etag k.1 i = 1 := by
          unfold k_etag
          rename_i h22 h23
          rw [if_neg h20, if_neg h22, if_neg h23]
        have g1 := g i
        rw [e] at g1
        rw [h (f i) g1]
theorem k_ws_al {cy : Nat → ClassId} {al al' : Int → Nat} {A : k_H} (h : ∀ a : Int, a < k_N A → al' a = al a) (g : k_gh A) : k_ws cy al' A = k_ws cy al A := by
  unfold k_ws
  refine List.map_congr_left fun a ha => ?_
  have ha := List.mem_range.mp ha
  rw [h a (by omega), k_cell_al h (fun i => g a i (by omega) (by omega))]
theorem k_ws_at {cy : Nat → ClassId} {al : Int → Nat} {A : k_H} {a : Int} (h0 : 0 ≤ a) (h : a < k_N A) : (k_ws cy al A)[a.toNat]? = some (al a, k_cell cy al (k_kd A a) (k_rd A a)) := by
  obtain ⟨b, rfl⟩ := Int.eq_ofNat_of_zero_le h0
  have hb : b < k_N A := by omega
  simp [k_ws, hb]
theorem k_ws_len {cy : Nat → ClassId} {al : Int → Nat} {A : k_H} : (k_ws cy al A).length = k_N A := by simp [k_ws]
/-- a write is a set of one row -/
theorem k_ws_wt {cy : Nat → ClassId} {al : Int → Nat} {A : k_H} {a i v : Int} (h0 : 0 ≤ a) : k_ws cy al (k_wt A a i v) = (k_ws cy al A).set a.toNat (al a, k_cell cy al (k_kd A a) (fun j => if j = i then v else k_rd A a j)) := by
  obtain ⟨b, rfl⟩ := Int.eq_ofNat_of_zero_le h0
  refine List.ext_getElem? fun n => ?_
  rw [List.getElem?_set]
  by_cases hn : n < k_N A
  · have e1 : (k_ws cy al (k_wt A b i v))[n]? = some (al n, k_cell cy al (k_kd A n) (k_rd (k_wt A b i v) n)) := by
      have : n < k_N (k_wt A b i v) := hn
      simp [k_ws, this]
      rfl
    rw [e1]
    by_cases hb : b = n
    · subst hb
      simp only [Int.toNat_natCast, if_true, k_ws_len, hn]
      have : k_rd (k_wt A b i v) b = fun j => if j = i then v else k_rd A b j := by
        funext j
        simp [k_rd, k_wt]
      rw [this]
    · have e2 : (k_ws cy al A)[n]? = some (al n, k_cell cy al (k_kd A n) (k_rd A n)) := by simp [k_ws, hn]
      have e3 : k_rd (k_wt A b i v) n = k_rd A n := by
        funext j
        have : ¬ ((n : Int) = b ∧ j = i) := by omega
        simp [k_rd, k_wt, this]
      rw [if_neg (by simpa using hb), e2, e3]
  · have e1 : (k_ws cy al (k_wt A b i v))[n]? = none := by
      rw [List.getElem?_eq_none]
      rw [k_ws_len]
      exact Nat.not_lt.mp hn
    have e2 : (k_ws cy al A)[n]? = none := by
      rw [List.getElem?_eq_none]
      rw [k_ws_len]
      exact Nat.not_lt.mp hn
    rw [e1, e2]
    split
    · rename_i hb
      rw [if_neg]
      rw [k_ws_len]
      simp at hb
      omega
    · rfl
/-- a new cell is a row more -/
theorem k_ws_mk {cy : Nat → ClassId} {al : Int → Nat} {A : k_H} {k len q : Nat} (g : k_gh A) : k_ws cy (fun a => if a = (k_N A : Int) then q else al a) (k_mk A k len) = k_ws cy al A ++ [(q, k_cell cy (fun a => if a = (k_N A : Int) then q else al a) (k, len) (k_dft k))] := by
  have hN : k_N (k_mk A k len) = k_N A + 1 := rfl
  unfold k_ws
  rw [hN, List.range_succ, List.map_append]
  congr 1
  · refine List.map_congr_left fun a ha => ?_
    have ha := List.mem_range.mp ha
    have e0 : ¬ ((a : Int) = (k_N A : Int)) := by omega
    have e1 : k_kd (k_mk A k len) a = k_kd A a := by simp [k_kd, k_mk, e0]
    have e2 : k_rd (k_mk A k len) a = k_rd A a := by funext i; simp [k_rd, k_mk, e0]
    rw [e1, e2]
    show ((if (a : Int) = (k_N A : Int) then q else al a), _) = _
    rw [if_neg e0]
    rw [k_cell_al (al := al) (n := k_N A) (fun b hb => by rw [if_neg (by omega)]) (fun i => g a i (by omega) (by omega))]
  · have e1 : k_kd (k_mk A k len) (k_N A) = (k, len) := by simp [k_kd, k_mk]
    have e2 : k_rd (k_mk A k len) (k_N A) = k_dft k := by funext i; simp [k_rd, k_mk]
    simp [e1, e2]
theorem k_dft_gv (n k : Nat) (i : Int) : k_gv n (k_etag k i, k_dft k i) := by
  unfold k_dft
  have := k_etag_lt k i
  match h : k_etag k i, this with
  | 0, _ => exact ⟨by decide, by decide⟩
  | 1, _ => show (-1 : Int) < n; omega
  | 2, _ => exact ⟨by decide, by decide⟩
theorem k_gh_mk {A : k_H} {k len : Nat} (g : k_gh A) : k_gh (k_mk A k len) := by
  intro a i h0 h1
  have hN : k_N (k_mk A k len) = k_N A + 1 := rfl
  rw [hN] at h1 ⊢
  by_cases e0 : a = (k_N A : Int)
  · have e1 : k_kd (k_mk A k len) a = (k, len) := by simp [k_kd, k_mk, e0]
    have e2 : k_rd (k_mk A k len) a i = k_dft k i := by simp [k_rd, k_mk, e0]
    rw [e1, e2]
    exact k_dft_gv _ _ _
  · have e1 : k_kd (k_mk A k len) a = k_kd A a := by simp [k_kd, k_mk, e0]
    have e2 : k_rd (k_mk A k len) a i = k_rd A a i := by simp [k_rd, k_mk, e0]
    rw [e1, e2]
    exact k_gv_mono (Nat.le_succ _) (g a i h0 (by omega))
theorem k_gh_wt {A : k_H} {a i v : Int} (g : k_gh A) (hv : k_gv (k_N A) (k_etag (k_kd A a).1 i, v)) : k_gh (k_wt A a i v) := by
  intro b j h0 h1
  show k_gv (k_N A) (k_etag (k_kd A b).1 j, if b = a ∧ j = i then v else k_rd A b j)
  split
  · rename_i h
    rw [h.1, h.2]
    exact hv
  · exact g b j h0 h1
