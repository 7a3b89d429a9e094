/-! rules of the heap -/
/-- a class of the picture -/
def k_CI (ci : Nat) (Cn : String) (Tt : u_T) (Nn : Nat) (ty : Nat → FieldType) : Prop :=
  vwCl[ci]? = some (Cn, Tt, Nn) ∧ Nn = (k_ftab.getD ci []).length ∧ ci < 20 ∧ (∀ w ∈ u_ws Cn Tt Nn, w ∈ k_GW) ∧ (∀ k, k < Nn → parseFieldDescriptor (Tt k).2.2.1 = some (ty k)) ∧ (∀ a, a < Nn → ∀ b, b < Nn → a ≠ b → (Tt a).2.1 ≠ (Tt b).2.1) ∧ ∀ k, k < Nn → defaultValue (ty k) = k_tv (fun _ => 0) (k_etag ci k, k_dft ci k)
set_option maxRecDepth 20000 in
theorem k_uw0 : ∀ w ∈ u_ws RX0 TX0 2, w ∈ k_GW := List.forall_mem_cons.mpr ⟨k_gt 227 (by decide +kernel) (by decide +kernel), List.forall_mem_cons.mpr ⟨k_gt 229 (by decide +kernel) (by decide +kernel), fun _ h => absurd h List.not_mem_nil⟩⟩
set_option maxRecDepth 20000 in
theorem k_c0 : k_CI 0 RX0 TX0 2 tyX0 := ⟨rfl, rfl, by decide, k_uw0, tyX0_ok, nmX0, by decide +kernel⟩
set_option maxRecDepth 20000 in
theorem k_uw1 : ∀ w ∈ u_ws RX1 TX1 6, w ∈ k_GW := List.forall_mem_cons.mpr ⟨k_gt 244 (by decide +kernel) (by decide +kernel), List.forall_mem_cons.mpr ⟨k_gt 246 (by decide +kernel) (by decide +kernel), List.forall_mem_cons.mpr ⟨k_gt 248 (by decide +kernel) (by decide +kernel), List.forall_mem_cons.mpr ⟨k_gt 250 (by decide +kernel) (by decide +kernel), List.forall_mem_cons.mpr ⟨k_gt 252 (by decide +kernel) (by decide +kernel), List.forall_mem_cons.mpr ⟨k_gt 254 (by decide +kernel) (by decide +kernel), fun _ h => absurd h List.not_mem_nil⟩⟩⟩⟩⟩⟩
set_option maxRecDepth 20000 in
theorem k_c1 : k_CI 1 RX1 TX1 6 tyX1 := ⟨rfl, rfl, by decide, k_uw1, tyX1_ok, nmX1, by decide +kernel⟩
set_option maxRecDepth 20000 in
theorem k_uw2 : ∀ w ∈ u_ws RX2 TX2 10, w ∈ k_GW := List.forall_mem_cons.mpr ⟨k_gt 102 (by decide +kernel) (by decide +kernel), List.forall_mem_cons.mpr ⟨k_gt 104 (by decide +kernel) (by decide +kernel), List.forall_mem_cons.mpr ⟨k_gt 106 (by decide +kernel) (by decide +kernel), List.forall_mem_cons.mpr ⟨k_gt 108 (by decide +kernel) (by decide +kernel), List.forall_mem_cons.mpr ⟨k_gt 110 (by decide +kernel) (by decide +kernel), List.forall_mem_cons.mpr ⟨k_gt 112 (by decide +kernel) (by decide +kernel), List.forall_mem_cons.mpr ⟨k_gt 114 (by decide +kernel) (by decide +kernel), List.forall_mem_cons.mpr ⟨k_gt 116 (by decide +kernel) (by decide +kernel), List.forall_mem_cons.mpr ⟨k_gt 118 (by decide +kernel) (by decide +kernel), List.forall_mem_cons.mpr ⟨k_gt 120 (by decide +kernel) (by decide +kernel), fun _ h => absurd h List.not_mem_nil⟩⟩⟩⟩⟩⟩⟩⟩⟩⟩
set_option maxRecDepth 20000 in
theorem k_c2 : k_CI 2 RX2 TX2 10 tyX2 := ⟨rfl, rfl, by decide, k_uw2, tyX2_ok, nmX2, by decide +kernel⟩
set_option maxRecDepth 20000 in
theorem k_uw3 : ∀ w ∈ u_ws RX3 TX3 9, w ∈ k_GW := List.forall_mem_cons.mpr ⟨k_gt 67 (by decide +kernel) (by decide +kernel), List.forall_mem_cons.mpr ⟨k_gt 69 (by decide +kernel) (by decide +kernel), List.forall_mem_cons.mpr ⟨k_gt 71 (by decide +kernel) (by decide +kernel), List.forall_mem_cons.mpr ⟨k_gt 73 (by decide +kernel) (by decide +kernel), List.forall_mem_cons.mpr ⟨k_gt 75 (by decide +kernel) (by decide +kernel), List.forall_mem_cons.mpr ⟨k_gt 77 (by decide +kernel) (by decide +kernel), List.forall_mem_cons.mpr ⟨k_gt 79 (by decide +kernel) (by decide +kernel), List.forall_mem_cons.mpr ⟨k_gt 81 (by decide +kernel) (by decide +kernel), List.forall_mem_cons.mpr ⟨k_gt 83 (by decide +kernel) (by decide +kernel), fun _ h => absurd h List.not_mem_nil⟩⟩⟩⟩⟩⟩⟩⟩⟩
set_option maxRecDepth 20000 in
theorem k_c3 : k_CI 3 RX3 TX3 9 tyX3 := ⟨rfl, rfl, by decide, k_uw3, tyX3_ok, nmX3, by decide +kernel⟩
set_option maxRecDepth 20000 in
theorem k_uw4 : ∀ w ∈ u_ws RX4 TX4 10, w ∈ k_GW := List.forall_mem_cons.mpr ⟨k_gt 293 (by decide +kernel) (by decide +kernel), List.forall_mem_cons.mpr ⟨k_gt 295 (by decide +kernel) (by decide +kernel), List.forall_mem_cons.mpr ⟨k_gt 297 (by decide +kernel) (by decide +kernel), List.forall_mem_cons.mpr ⟨k_gt 299 (by decide +kernel) (by decide +kernel), List.forall_mem_cons.mpr ⟨k_gt 301 (by decide +kernel) (by decide +kernel), List.forall_mem_cons.mpr ⟨k_gt 303 (by decide +kernel) (by decide +kernel), List.forall_mem_cons.mpr ⟨k_gt 305 (by decide +kernel) (by decide +kernel), List.forall_mem_cons.mpr ⟨k_gt 307 (by decide +kernel) (by decide +kernel), List.forall_mem_cons.mpr ⟨k_gt 309 (by decide +kernel) (by decide +kernel), List.forall_mem_cons.mpr ⟨k_gt 311 (by decide +kernel) (by decide +kernel), fun _ h => absurd h List.not_mem_nil⟩⟩⟩⟩⟩⟩⟩⟩⟩⟩
set_option maxRecDepth 20000 in
theorem k_c4 : k_CI 4 RX4 TX4 10 tyX4 := ⟨rfl, rfl, by decide, k_uw4, tyX4_ok, nmX4, by decide +kernel⟩
set_option maxRecDepth 20000 in
theorem k_uw5 : ∀ w ∈ u_ws RX5 TX5 2, w ∈ k_GW := List.forall_mem_cons.mpr ⟨k_gt 42 (by decide +kernel) (by decide +kernel), List.forall_mem_cons.mpr ⟨k_gt 44 (by decide +kernel) (by decide +kernel), fun _ h => absurd h List.not_mem_nil⟩⟩
set_option maxRecDepth 20000 in
theorem k_c5 : k_CI 5 RX5 TX5 2 tyX5 := ⟨rfl, rfl, by decide, k_uw5, tyX5_ok, nmX5, by decide +kernel⟩
set_option maxRecDepth 20000 in
theorem k_uw6 : ∀ w ∈ u_ws RX6 TX6 7, w ∈ k_GW := List.forall_mem_cons.mpr ⟨k_gt 150 (by decide +kernel) (by decide +kernel), List.forall_mem_cons.mpr ⟨k_gt 152 (by decide +kernel) (by decide +kernel), List.forall_mem_cons.mpr ⟨k_gt 154 (by decide +kernel) (by decide +kernel), List.forall_mem_cons.mpr ⟨k_gt 156 (by decide +kernel) (by decide +kernel), List.forall_mem_cons.mpr ⟨k_gt 158 (by decide +kernel) (by decide +kernel), List.forall_mem_cons.mpr ⟨k_gt 160 (by decide +kernel) (by decide +kernel), List.forall_mem_cons.mpr ⟨k_gt 162 (by decide +kernel) (by decide +kernel), fun _ h => absurd h List.not_mem_nil⟩⟩⟩⟩⟩⟩⟩
set_option maxRecDepth 20000 in
theorem k_c6 : k_CI 6 RX6 TX6 7 tyX6 := ⟨rfl, rfl, by decide, k_uw6, tyX6_ok, nmX6, by decide +kernel⟩
set_option maxRecDepth 20000 in
theorem k_uw7 : ∀ w ∈ u_ws RX7 TX7 12, w ∈ k_GW := List.forall_mem_cons.mpr ⟨k_gt 183 (by decide +kernel) (by decide +kernel), List.forall_mem_cons.mpr ⟨k_gt 185 (by decide +kernel) (by decide +kernel), List.forall_mem_cons.mpr ⟨k_gt 187 (by decide +kernel) (by decide +kernel), List.forall_mem_cons.mpr ⟨k_gt 189 (by decide +kernel) (by decide +kernel), List.forall_mem_cons.mpr ⟨k_gt 191 (by decide +kernel) (by decide +kernel), List.forall_mem_cons.mpr ⟨k_gt 193 (by decide +kernel) (by decide +kernel), List.forall_mem_cons.mpr ⟨k_gt 195 (by decide +kernel) (by decide +kernel), List.forall_mem_cons.mpr ⟨k_gt 197 (by decide +kernel) (by decide +kernel), List.forall_mem_cons.mpr ⟨k_gt 199 (by decide +kernel) (by decide +kernel), List.forall_mem_cons.mpr ⟨k_gt 201 (by decide +kernel) (by decide +kernel), List.forall_mem_cons.mpr ⟨k_gt 203 (by decide +kernel) (by decide +kernel), List.forall_mem_cons.mpr ⟨k_gt 205 (by decide +kernel) (by decide +kernel), fun _ h => absurd h List.not_mem_nil⟩⟩⟩⟩⟩⟩⟩⟩⟩⟩⟩⟩
set_option maxRecDepth 20000 in
theorem k_c7 : k_CI 7 RX7 TX7 12 tyX7 := ⟨rfl, rfl, by decide, k_uw7, tyX7_ok, nmX7, by decide +kernel⟩
set_option maxRecDepth 20000 in
theorem k_uw8 : ∀ w ∈ u_ws RX8 TX8 8, w ∈ k_GW := List.forall_mem_cons.mpr ⟨k_gt 322 (by decide +kernel) (by decide +kernel), List.forall_mem_cons.mpr ⟨k_gt 324 (by decide +kernel) (by decide +kernel), List.forall_mem_cons.mpr ⟨k_gt 326 (by decide +kernel) (by decide +kernel), List.forall_mem_cons.mpr ⟨k_gt 328 (by decide +kernel) (by decide +kernel), List.forall_mem_cons.mpr ⟨k_gt 330 (by decide +kernel) (by decide +kernel), List.forall_mem_cons.mpr ⟨k_gt 332 (by decide +kernel) (by decide +kernel), List.forall_mem_cons.mpr ⟨k_gt 334 (by decide +kernel) (by decide +kernel), List.forall_mem_cons.mpr ⟨k_gt 336 (by decide +kernel) (by decide +kernel), fun _ h => absurd h List.not_mem_nil⟩⟩⟩⟩⟩⟩⟩⟩
set_option maxRecDepth 20000 in
theorem k_c8 : k_CI 8 RX8 TX8 8 tyX8 := ⟨rfl, rfl, by decide, k_uw8, tyX8_ok, nmX8, by decide +kernel⟩
set_option maxRecDepth 20000 in
theorem k_uw9 : ∀ w ∈ u_ws RX9 TX9 43, w ∈ k_GW := List.forall_mem_cons.mpr ⟨k_gt 916 (by decide +kernel) (by decide +kernel), List.forall_mem_cons.mpr ⟨k_gt 918 (by decide +kernel) (by decide +kernel), List.forall_mem_cons.mpr ⟨k_gt 920 (by decide +kernel) (by decide +kernel), List.forall_mem_cons.mpr ⟨k_gt 922 (by decide +kernel) (by decide +kernel), List.forall_mem_cons.mpr ⟨k_gt 924 (by decide +kernel) (by decide +kernel), List.forall_mem_cons.mpr ⟨k_gt 926 (by decide +kernel) (by decide +kernel), List.forall_mem_cons.mpr ⟨k_gt 928 (by decide +kernel) (by decide +kernel), List.forall_mem_cons.mpr ⟨k_gt 930 (by decide +kernel) (by decide +kernel), List.forall_mem_cons.mpr ⟨k_gt 932 (by decide +kernel) (by decide +kernel), List.forall_mem_cons.mpr ⟨k_gt 934 (by decide +kernel) (by decide +kernel), List.forall_mem_cons.mpr ⟨k_gt 936 (by decide +kernel) (by decide +kernel), List.forall_mem_cons.mpr ⟨k_gt 938 (by decide +kernel) (by decide +kernel), List.forall_mem_cons.mpr ⟨k_gt 940 (by decide +kernel) (by decide +kernel), List.forall_mem_cons.mpr ⟨k_gt 942 (by decide +kernel) (by decide +kernel), List.forall_mem_cons.mpr ⟨k_gt 944 (by decide +kernel) (by decide +kernel), List.forall_mem_cons.mpr ⟨k_gt 946 (by decide +kernel) (by decide +kernel), List.forall_mem_cons.mpr ⟨k_gt 948 (by decide +kernel) (by decide +kernel), List.forall_mem_cons.mpr ⟨k_gt 950 (by decide +kernel) (by decide +kernel), List.forall_mem_cons.mpr ⟨k_gt 952 (by decide +kernel) (by decide +kernel), List.forall_mem_cons.mpr ⟨k_gt 954 (by decide +kernel) (by decide +kernel), List.forall_mem_cons.mpr ⟨k_gt 956 (by decide +kernel) (by decide +kernel), List.forall_mem_cons.mpr ⟨k_gt 958 (by decide +kernel) (by decide +kernel), List.forall_mem_cons.mpr ⟨k_gt 960 (by decide +kernel) (by decide +kernel), List.forall_mem_cons.mpr ⟨k_gt 962 (by decide +kernel) (by decide +kernel), List.forall_mem_cons.mpr ⟨k_gt 964 (by decide +kernel) (by decide +kernel), List.forall_mem_cons.mpr ⟨k_gt 966 (by decide +kernel) (by decide +kernel), List.forall_mem_cons.mpr ⟨k_gt 968 (by decide +kernel) (by decide +kernel), List.forall_mem_cons.mpr ⟨k_gt 970 (by decide +kernel) (by decide +kernel), List.forall_mem_cons.mpr ⟨k_gt 972 (by decide +kernel) (by decide +kernel), List.forall_mem_cons.mpr ⟨k_gt 974 (by decide +kernel) (by decide +kernel), List.forall_mem_cons.mpr ⟨k_gt 976 (by decide +kernel) (by decide +kernel), List.forall_mem_cons.mpr ⟨k_gt 978 (by decide +kernel) (by decide +kernel), List.forall_mem_cons.mpr ⟨k_gt 980 (by decide +kernel) (by decide +kernel), List.forall_mem_cons.mpr ⟨k_gt 982 (by decide +kernel) (by decide +kernel), List.forall_mem_cons.mpr ⟨k_gt 984 (by decide +kernel) (by decide +kernel), List.forall_mem_cons.mpr ⟨k_gt 986 (by decide +kernel) (by decide +kernel), List.forall_mem_cons.mpr ⟨k_gt 988 (by decide +kernel) (by decide +kernel), List.forall_mem_cons.mpr ⟨k_gt 990 (by decide +kernel) (by decide +kernel), List.forall_mem_cons.mpr ⟨k_gt 992 (by decide +kernel) (by decide +kernel), List.forall_mem_cons.mpr ⟨k_gt 994 (by decide +kernel) (by decide +kernel), List.forall_mem_cons.mpr ⟨k_gt 996 (by decide +kernel) (by decide +kernel), List.forall_mem_cons.mpr ⟨k_gt 998 (by decide +kernel) (by decide +kernel), List.forall_mem_cons.mpr ⟨k_gt 1000 (by decide +kernel) (by decide +kernel), fun _ h => absurd h List.not_mem_nil⟩⟩⟩⟩⟩⟩⟩⟩⟩⟩⟩⟩⟩⟩⟩⟩⟩⟩⟩⟩⟩⟩⟩⟩⟩⟩⟩⟩⟩⟩⟩⟩⟩⟩⟩⟩⟩⟩⟩⟩⟩⟩⟩
set_option maxRecDepth 20000 in
theorem k_c9 : k_CI 9 RX9 TX9 43 tyX9 := ⟨rfl, rfl, by decide, k_uw9, tyX9_ok, nmX9, by decide +kernel⟩
/-- a field by its link -/
def k_FL (own : String) (idx ci k : Nat) (fin : Bool) (ty : FieldType) : Prop := ∃ (Cn : String) (Tt : u_T) (Nn : Nat) (ty0 : Nat → FieldType), k_CI ci Cn Tt Nn ty0 ∧ k < Nn ∧ Cond.fieldLink own idx (Tt k).1 (Tt k).2.1 (Tt k).2.2.1 ∈ k_GW ∧ (Tt k).2.2.2 = fin ∧ ty0 k = ty ∧ (Tt k).1 = Cn
/-- an object of that class, an array of that kind with that place -/
abbrev k_isO (A : k_H) (a : Int) (ci : Nat) : Prop := 0 ≤ a ∧ a < k_N A ∧ (k_kd A a).1 = ci
abbrev k_isA (A : k_H) (a : Int) (K : Nat) (i : Int) : Prop := 0 ≤ a ∧ a < k_N A ∧ (k_kd A a).1 = K ∧ 0 ≤ i ∧ i < (k_kd A a).2
abbrev k_isR (A : k_H) (a : Int) (K : Nat) : Prop := 0 ≤ a ∧ a < k_N A ∧ (k_kd A a).1 = K
theorem k_cell_o {cy : Nat → ClassId} {al : Int → Nat} {kk : Nat × Nat} {f : Int → Int} {ci : Nat} (h : kk.1 = ci) (hc : ci < 20) : k_cell cy al kk f = .inr (ci, (List.range (k_ftab.getD ci []).length).map fun (i : Nat) => k_tv al (k_etag ci i, f i)) := by
  subst h
  unfold k_cell
  rw [if_pos hc]
theorem k_cell_i {cy : Nat → ClassId} {al : Int → Nat} {kk : Nat × Nat} {f : Int → Int} {K : Nat} (h : kk.1 = K) (h1 : 20 ≤ K) (h2 : K < 22) : k_cell cy al kk f = .inl (cy K, kk.2, .inl (fun (i : Nat) => Int32.ofInt (f i))) := by
  subst h
  unfold k_cell
  rw [if_neg (by omega), if_neg (by omega), if_pos (by omega)]
theorem k_cell_l {cy : Nat → ClassId} {al : Int → Nat} {kk : Nat × Nat} {f : Int → Int} (h : kk.1 = 22) : k_cell cy al kk f = .inl (cy 22, kk.2, .inr (.inl fun (i : Nat) => Int64.ofInt (f i))) := by
  unfold k_cell
  rw [if_neg (by omega), if_pos h, h]
theorem k_cell_r {cy : Nat → ClassId} {al : Int → Nat} {kk : Nat × Nat} {f : Int → Int} {K : Nat} (h : kk.1 = K) (h1 : 23 ≤ K) : k_cell cy al kk f = .inl (cy K, kk.2, .inr (.inr (.inr (.inr fun (i : Nat) => k_orf al (f i))))) := by
  subst h
  unfold k_cell
  rw [if_neg (by omega), if_neg (by omega), if_neg (by omega)]
theorem k_ref {al : Int → Nat} {a : Int} (h : 0 ≤ a) : k_tv al (1, a) = .ref (al a) := by
  show va_rf (k_orf al a) = _
  unfold k_orf; rw [if_neg (by omega)]; rfl
/-- reading and writing a picture -/
theorem k_fs_get {al : Int → Nat} {ci N k : Nat} {f : Int → Int} (hk : k < N) : ((List.range N).map fun (i : Nat) => k_tv al (k_etag ci i, f i))[k]? = some (k_tv al (k_etag ci k, f k)) := by simp [hk]
theorem k_fs_set {al : Int → Nat} {ci N k : Nat} {f : Int → Int} {v : Int} (hk : k < N) : (((List.range N).map fun (i : Nat) => k_tv al (k_etag ci i, f i)).set k (k_tv al (k_etag ci k, v))) = (List.range N).map fun (i : Nat) => k_tv al (k_etag ci i, (fun j : Int => if j = (k : Int) then v else f j) i) := by
  refine List.ext_getElem? fun n => ?_
  rw [List.getElem?_set]
  by_cases hn : n < N
  · by_cases e : k = n
    · subst e; simp [hn]
    · have e2 : ¬ ((n : Int) = (k : Int)) := by omega
      simp [hn, e, e2]
  · have h1 : (List.map (fun (i : Nat) => k_tv al (k_etag ci i, f i)) (List.range N))[n]? = none := by simp; omega
    have h2 : (List.map (fun (i : Nat) => k_tv al (k_etag ci i, (fun j : Int => if j = (k : Int) then v else f j) i)) (List.range N))[n]? = none := by simp; omega
    rw [h1, h2]
    split
    · rw [if_neg]; simp; omega
    · rfl
theorem k_vin {n : Nat} {i : Int} (g : k_gv n (0, i)) {L : Nat} (h0 : 0 ≤ i) (h : i < L) : vp_in (Int32.ofInt i) L ∧ (Int32.ofInt i).toNatClampNeg = i.toNat := by
  have e : (Int32.ofInt i).toNatClampNeg = i.toNat := by rw [← Int32.toNat_toInt, k_i0 g]
  refine ⟨?_, e⟩
  rw [vp_in_iff, k_i0 g]
  exact ⟨h0, h⟩
theorem k_toN {i : Int} (h0 : 0 ≤ i) : ((i.toNat : Nat) : Int) = i := Int.toNat_of_nonneg h0
/-- the movable part behind a write -/
theorem k_Dy_wt {s : State} {D : va_G} {cy : Nat → ClassId} {A0 : Nat → Prop} {al0 : Int → Nat} {sc : Nat × (Nat → Int32)} {ob : Nat × Nat × Nat} {al : Int → Nat} {A : k_H} {H H1 : Heap} {locs locs1 : List Loc} {cells slots : Nat} {a i v : Int} (Y : k_Dy s D cy A0 al0 sc ob al A H locs cells slots) (h0 : 0 ≤ a) (hv : k_gv (k_N A) (k_etag (k_kd A a).1 i, v))
    {w : Nat × va_E} (hw : w = (al a, k_cell cy al (k_kd A a) (fun j => if j = i then v else k_rd A a j))) (hP : va_P D vwCl ((k_ws cy al A).set a.toNat w) H1) (hD : va_D A0 ((k_ws cy al A).set a.toNat w)) (hS : va_S A0 s.heap H1 locs1) : k_Dy s D cy A0 al0 sc ob al (k_wt A a i v) H1 locs1 cells slots := by
  obtain ⟨-, -, -, yg, ysc, yc, yn, ya⟩ := Y
  rw [hw, ← k_ws_wt h0] at hP hD
  refine ⟨hP, hD, hS, k_gh_wt yg hv, ⟨ysc.1, fun j hj => ?_⟩, yc, yn, ya⟩
  show (if (-2 : Int) = a ∧ (j : Int) = i then v else k_rd A (-2) j) = _
  rw [if_neg (by omega)]
  exact ysc.2 j hj
/-- which values a field takes -/
def k_nf (ty : FieldType) (t : Nat) (x : Int) : Prop := match ty with
  | .int => t = 0
  | .boolean => t = 0 ∧ (x = 0 ∨ x = 1)
  | .long => t = 2
  | .object _ => t = 1
  | .array _ => t = 1
  | _ => False
theorem k_nf_ok {ty : FieldType} {t : Nat} {x : Int} {al : Int → Nat} (h : k_nf ty t x) : narrow ty (k_tv al (t, x)) = k_tv al (t, x) ∧ fits ty (k_tv al (t, x)) = true := by
  have hr : ∀ ty : FieldType, (∃ n, ty = .object n) ∨ (∃ n, ty = .array n) → narrow ty (k_tv al (1, x)) = k_tv al (1, x) ∧ fits ty (k_tv al (1, x)) = true := by
    intro ty hty
    have e : k_tv al (1, x) = va_rf (k_orf al x) := rfl
    rw [e]
    rcases hty with ⟨n, rfl⟩ | ⟨n, rfl⟩ <;> cases k_orf al x <;> exact ⟨rfl, rfl⟩
  cases ty with
  | int => cases h; exact ⟨rfl, rfl⟩
  | boolean =>
    obtain ⟨h1, h2⟩ := h
    subst h1
    rcases h2 with rfl | rfl <;> exact ⟨by show Value.int _ = Value.int _; congr 1, rfl⟩
  | long => cases h; exact ⟨rfl, rfl⟩
  | object n => cases h; exact hr _ (Or.inl ⟨n, rfl⟩)
  | array n => cases h; exact hr _ (Or.inr ⟨n, rfl⟩)
  | _ => exact absurd h (by intro z; exact z)
section
variable {d : Nat} {M : k_M} {pc : Nat} {ls st : List k_V} {A : k_H} {r : Int} {A' : k_H}
theorem k_getf {i ci f t : Nat} {a fi : Int} {fin : Bool} {ty : FieldType} (hd : decode M.2.1 pc = .ok (.getfield i, 3)) (hf : k_FL M.1.cls i ci f fin ty) (ht : k_etag ci f = t) (hfi : ((f : Nat) : Int) = fi) (ha : k_isO A a ci) (k : k_AW d M (pc + 3) ls ((t, k_rd A a fi) :: st) A r A') : k_AW d M pc ls ((1, a) :: st) A r A' :=
  ⟨k.1, fun p l e R s m args below meth c Q D cy A0 al0 sc ob al H locs cells slots LS C G F Y L gl gs => by
    obtain ⟨Cn, Tt, Nn, ty0, ⟨c1, c2, c3, c4, c5, c6, c7⟩, hfN, hlink, -, -, -⟩ := hf
    obtain ⟨h0, hN, hk⟩ := ha
    subst ht; subst hfi
    have gv := Y.2.2.2.1 a f h0 hN
    rw [hk] at gv
    have w := va_get (D := D) (rest := st.map (k_tv al)) (ls := LS) C.1 C.2.1 C.2.2.2.2.2.1 c4 C.2.2.2.2.1 C.2.2.2.2.2.2.2.2.1 Y.1 a.toNat ((k_ws_at h0 hN).trans (by rw [k_cell_o hk c3])) c1 f hfN (C.2.2.2.2.2.1 _ hlink) (fun _ h9 => h9) (k_fs_get (by rw [← c2]; exact hfN)) hd (k.2 p l e R s m args below meth c Q D cy A0 al0 sc ob al H locs cells slots LS C G F Y L gl (k_gl_cons.mpr ⟨gv, (k_gl_cons.mp gs).2⟩))
    rw [List.map_cons, k_ref h0]
    exact w⟩
theorem k_putf {i ci f t : Nat} {a x fi : Int} {ty : FieldType} (hd : decode M.2.1 pc = .ok (.putfield i, 3)) (hf : k_FL M.1.cls i ci f false ty) (ht : k_etag ci f = t) (hfi : ((f : Nat) : Int) = fi) (ha : k_isO A a ci) (hn : k_nf ty t x) (k : k_AW d M (pc + 3) ls st (k_wt A a fi x) r A') : k_AW d M pc ls ((t, x) :: (1, a) :: st) A r A' :=
  ⟨k.1, fun p l e R s m args below meth c Q D cy A0 al0 sc ob al H locs cells slots LS C G F Y L gl gs => by
    obtain ⟨Cn, Tt, Nn, ty0, ⟨c1, c2, c3, c4, c5, c6, c7⟩, hfN, hlink, hfin, hty, hcl⟩ := hf
    obtain ⟨h0, hN, hk⟩ := ha
    subst ht; subst hty; subst hfi
    have hnf := k_nf_ok (al := al) hn
    have gx := (k_gl_cons.mp gs).1
    rw [List.map_cons, List.map_cons, k_ref h0]
    have hlen : f < ((List.range (k_ftab.getD ci []).length).map fun (i : Nat) => k_tv al (k_etag ci i, k_rd A a i)).length := by simp only [List.length_map, List.length_range]; rw [← c2]; exact hfN
    refine va_put (D := D) (H0 := s.heap) C.1 C.2.1 C.2.2.2.2.2.1 c4 ty0 c5 c6 C.2.2.2.2.1 C.2.2.2.2.2.2.2.2.1 Y.1 Y.2.1 Y.2.2.1 a.toNat ((k_ws_at h0 hN).trans (by rw [k_cell_o hk c3])) c1 f hfN (C.2.2.2.2.2.1 _ hlink) (fun _ h9 => h9) hfin (c5 f hfN) hnf.1 hnf.2 hlen hd (fun H1 locs1 hP hD hS => ?_)
    rw [k_fs_set (by rw [← c2]; exact hfN)] at hP hD
    exact k.2 p l e R s m args below meth c Q D cy A0 al0 sc ob al H1 locs1 cells slots LS C G F (k_Dy_wt Y h0 (by rw [hk]; exact gx) (by rw [k_cell_o hk c3]) hP hD hS) L gl (k_gl_cons.mp (k_gl_cons.mp gs).2).2⟩
theorem k_putF {i ci f t : Nat} {a x fi : Int} {ty : FieldType} (hd : decode M.2.1 pc = .ok (.putfield i, 3)) (hf : k_FL M.1.cls i ci f true ty) (hc : M.1.name = "<init>") (ho : ∀ Cn Tt Nn, vwCl[ci]? = some (Cn, Tt, Nn) → Cn = M.1.cls) (ht : k_etag ci f = t) (hfi : ((f : Nat) : Int) = fi) (ha : k_isO A a ci) (hn : k_nf ty t x) (k : k_AW d M (pc + 3) ls st (k_wt A a fi x) r A') : k_AW d M pc ls ((t, x) :: (1, a) :: st) A r A' :=
  ⟨k.1, fun p l e R s m args below meth c Q D cy A0 al0 sc ob al H locs cells slots LS C G F Y L gl gs => by
    obtain ⟨Cn, Tt, Nn, ty0, ⟨c1, c2, c3, c4, c5, c6, c7⟩, hfN, hlink, hfin, hty, hcl⟩ := hf
    obtain ⟨h0, hN, hk⟩ := ha
    subst ht; subst hty; subst hfi
    have hnf := k_nf_ok (al := al) hn
    have gx := (k_gl_cons.mp gs).1
    rw [List.map_cons, List.map_cons, k_ref h0]
    have hlen : f < ((List.range (k_ftab.getD ci []).length).map fun (i : Nat) => k_tv al (k_etag ci i, k_rd A a i)).length := by simp only [List.length_map, List.length_range]; rw [← c2]; exact hfN
    refine va_putF (D := D) (H0 := s.heap) C.1 C.2.1 C.2.2.2.2.2.1 c4 ty0 c5 c6 C.2.2.2.2.1 C.2.2.2.2.2.2.2.2.1 Y.1 Y.2.1 Y.2.2.1 a.toNat ((k_ws_at h0 hN).trans (by rw [k_cell_o hk c3])) c1 f hfN (C.2.2.2.2.2.1 _ hlink) (fun _ h9 => h9) hfin (C.2.2.2.2.2.2.2.1.trans hc) (hcl.trans (ho _ _ _ c1)) (c5 f hfN) hnf.1 hnf.2 hlen hd (fun H1 locs1 hP hD hS => ?_)
    rw [k_fs_set (by rw [← c2]; exact hfN)] at hP hD
    exact k.2 p l e R s m args below meth c Q D cy A0 al0 sc ob al H1 locs1 cells slots LS C G F (k_Dy_wt Y h0 (by rw [hk]; exact gx) (by rw [k_cell_o hk c3]) hP hD hS) L gl (k_gl_cons.mp (k_gl_cons.mp gs).2).2⟩
theorem k_iaload {a i : Int} (hd : decode M.2.1 pc = .ok (.iaload, 1)) (ha : k_isA A a 21 i) (k : k_AW d M (pc + 1) ls ((0, k_rd A a i) :: st) A r A') : k_AW d M pc ls ((0, i) :: (1, a) :: st) A r A' :=
  ⟨k.1, fun p l e R s m args below meth c Q D cy A0 al0 sc ob al H locs cells slots LS C G F Y L gl gs => by
    obtain ⟨h0, hN, hk, hi0, hi⟩ := ha
    have gi := (k_gl_cons.mp gs).1
    obtain ⟨v1, v2⟩ := k_vin gi hi0 hi
    have gv := Y.2.2.2.1 a i h0 hN
    rw [hk] at gv
    rw [List.map_cons, List.map_cons, k_ref h0]
    refine va_iald (D := D) C.1 C.2.1 C.2.2.2.2.2.2.2.2.1 Y.1 a.toNat 1 ((k_ws_at h0 hN).trans (by rw [k_cell_i hk (by decide) (by decide)])) rfl v1 hd ?_
    rw [v2, k_toN hi0]
    exact k.2 p l e R s m args below meth c Q D cy A0 al0 sc ob al H locs cells slots LS C G F Y L gl (k_gl_cons.mpr ⟨gv, (k_gl_cons.mp (k_gl_cons.mp gs).2).2⟩)⟩
theorem k_baload {a i : Int} (hd : decode M.2.1 pc = .ok (.baload, 1)) (ha : k_isA A a 20 i) (k : k_AW d M (pc + 1) ls ((0, k_rd A a i) :: st) A r A') : k_AW d M pc ls ((0, i) :: (1, a) :: st) A r A' :=
  ⟨k.1, fun p l e R s m args below meth c Q D cy A0 al0 sc ob al H locs cells slots LS C G F Y L gl gs => by
    obtain ⟨h0, hN, hk, hi0, hi⟩ := ha
    have gi := (k_gl_cons.mp gs).1
    obtain ⟨v1, v2⟩ := k_vin gi hi0 hi
    have gv := Y.2.2.2.1 a i h0 hN
    rw [hk] at gv
    rw [List.map_cons, List.map_cons, k_ref h0]
    refine va_bald (D := D) C.1 C.2.1 C.2.2.2.2.2.2.2.2.1 Y.1 a.toNat 0 ((k_ws_at h0 hN).trans (by rw [k_cell_i hk (by decide) (by decide)])) rfl v1 hd ?_
    rw [v2, k_toN hi0]
    exact k.2 p l e R s m args below meth c Q D cy A0 al0 sc ob al H locs cells slots LS C G F Y L gl (k_gl_cons.mpr ⟨gv, (k_gl_cons.mp (k_gl_cons.mp gs).2).2⟩)⟩
theorem k_laload {a i : Int} (hd : decode M.2.1 pc = .ok (.laload, 1)) (ha : k_isA A a 22 i) (k : k_AW d M (pc + 1) ls ((2, k_rd A a i) :: st) A r A') : k_AW d M pc ls ((0, i) :: (1, a) :: st) A r A' :=
  ⟨k.1, fun p l e R s m args below meth c Q D cy A0 al0 sc ob al H locs cells slots LS C G F Y L gl gs => by
    obtain ⟨h0, hN, hk, hi0, hi⟩ := ha
    have gi := (k_gl_cons.mp gs).1
    obtain ⟨v1, v2⟩ := k_vin gi hi0 hi
    have gv := Y.2.2.2.1 a i h0 hN
    rw [hk] at gv
    rw [List.map_cons, List.map_cons, k_ref h0]
    refine va_lald (D := D) C.1 C.2.1 C.2.2.2.2.2.2.2.2.1 Y.1 a.toNat 2 ((k_ws_at h0 hN).trans (by rw [k_cell_l hk])) rfl v1 hd ?_
    rw [v2, k_toN hi0]
    exact k.2 p l e R s m args below meth c Q D cy A0 al0 sc ob al H locs cells slots LS C G F Y L gl (k_gl_cons.mpr ⟨gv, (k_gl_cons.mp (k_gl_cons.mp gs).2).2⟩)⟩
theorem k_aaload {a i : Int} {K : Nat} (hd : decode M.2.1 pc = .ok (.aaload, 1)) (hK : K = 23 ∨ K = 24) (ha : k_isA A a K i) (k : k_AW d M (pc + 1) ls ((1, k_rd A a i) :: st) A r A') : k_AW d M pc ls ((0, i) :: (1, a) :: st) A r A' :=
  ⟨k.1, fun p l e R s m args below meth c Q D cy A0 al0 sc ob al H locs cells slots LS C G F Y L gl gs => by
    obtain ⟨h0, hN, hk, hi0, hi⟩ := ha
    have gi := (k_gl_cons.mp gs).1
    obtain ⟨v1, v2⟩ := k_vin gi hi0 hi
    have gv := Y.2.2.2.1 a i h0 hN
    rw [hk] at gv
    rw [List.map_cons, List.map_cons, k_ref h0]
    rcases hK with rfl | rfl
    · refine va_aldq (D := D) C.1 C.2.1 C.2.2.2.2.2.2.2.2.1 Y.1 a.toNat 3 ((k_ws_at h0 hN).trans (by rw [k_cell_r hk (by decide)])) rfl v1 hd ?_
      rw [v2, k_toN hi0]
      exact k.2 p l e R s m args below meth c Q D cy A0 al0 sc ob al H locs cells slots LS C G F Y L gl (k_gl_cons.mpr ⟨gv, (k_gl_cons.mp (k_gl_cons.mp gs).2).2⟩)
    · refine va_aldq (D := D) C.1 C.2.1 C.2.2.2.2.2.2.2.2.1 Y.1 a.toNat 4 ((k_ws_at h0 hN).trans (by rw [k_cell_r hk (by decide)])) rfl v1 hd ?_
      rw [v2, k_toN hi0]
      exact k.2 p l e R s m args below meth c Q D cy A0 al0 sc ob al H locs cells slots LS C G F Y L gl (k_gl_cons.mpr ⟨gv, (k_gl_cons.mp (k_gl_cons.mp gs).2).2⟩)⟩
theorem k_alen {a : Int} {K : Nat} (hd : decode M.2.1 pc = .ok (.arraylength, 1)) (hK : K = 20 ∨ K = 21) (ha : k_isR A a K) (hl : (k_kd A a).2 < 2147483648) (k : k_AW d M (pc + 1) ls ((0, (k_kd A a).2) :: st) A r A') : k_AW d M pc ls ((1, a) :: st) A r A' :=
  ⟨k.1, fun p l e R s m args below meth c Q D cy A0 al0 sc ob al H locs cells slots LS C G F Y L gl gs => by
    obtain ⟨h0, hN, hk⟩ := ha
    have w := k.2 p l e R s m args below meth c Q D cy A0 al0 sc ob al H locs cells slots LS C G F Y L gl (k_gl_cons.mpr ⟨⟨by show (-2147483648 : Int) ≤ ((k_kd A a).2 : Int); omega, by show ((k_kd A a).2 : Int) < 2147483648; omega⟩, (k_gl_cons.mp gs).2⟩)
    have ev : Int32.ofNat (k_kd A a).2 = Int32.ofInt (((k_kd A a).2 : Nat) : Int) := Int32.ofInt_eq_ofNat.symm
    rw [List.map_cons, k_ref h0]
    rcases hK with rfl | rfl
    · exact va_alen (D := D) C.1 C.2.1 C.2.2.2.2.2.2.2.2.1 Y.1 a.toNat 0 ((k_ws_at h0 hN).trans (by rw [k_cell_i hk (by decide) (by decide)])) rfl ev hd w
    · exact va_alen (D := D) C.1 C.2.1 C.2.2.2.2.2.2.2.2.1 Y.1 a.toNat 1 ((k_ws_at h0 hN).trans (by rw [k_cell_i hk (by decide) (by decide)])) rfl ev hd w⟩
theorem k_sld {i : Int} (hd : decode M.2.1 pc = .ok (.iaload, 1)) (hi0 : 0 ≤ i) (hi : i < (k_kd A (-2)).2) (k : k_AW d M (pc + 1) ls ((0, k_rd A (-2) i) :: st) A r A') : k_AW d M pc ls ((0, i) :: (1, -2) :: st) A r A' :=
  ⟨k.1, fun p l e R s m args below meth c Q D cy A0 al0 sc ob al H locs cells slots LS C G F Y L gl gs => by
    obtain ⟨-, -, -, ⟨x1, x2, x3⟩, -, -, -⟩ := C.2.2.2.2.2.2.2.2.2.2.2.2
    have Y0 := Y
    obtain ⟨-, -, yS, -, ysc, -, yn, ya⟩ := Y0
    have ea : al (-2) = al0 (-2) := ya (-2) (by omega)
    have gi := (k_gl_cons.mp gs).1
    have hi2 : i < (sc.1 : Int) := by rw [ysc.1] at hi; exact hi
    obtain ⟨v1, v2⟩ := k_vin gi hi0 hi2
    have er : k_rd A (-2) i = (sc.2 i.toNat).toInt := by
      have := ysc.2 i.toNat (by omega)
      rw [k_toN hi0] at this
      exact this
    have w := k.2 p l e R s m args below meth c Q D cy A0 al0 sc ob al H locs cells slots LS C G F Y L gl (k_gl_cons.mpr ⟨by rw [er]; exact k_gi _ _, (k_gl_cons.mp (k_gl_cons.mp gs).2).2⟩)
    rw [List.map_cons, List.map_cons]
    have e1 : k_tv al (1, -2) = .ref (al0 (-2)) := by
      show va_rf (k_orf al (-2)) = _
      unfold k_orf; rw [if_neg (by decide), ea]; rfl
    rw [e1]
    refine va_sld C.1 C.2.1 x1 x2 x3 yS v1 hd ?_
    rw [v2]
    rw [List.map_cons, er] at w
    have e2 : k_tv al (0, (sc.2 i.toNat).toInt) = .int (sc.2 i.toNat) := congrArg Value.int (Int32.ofInt_toInt _)
    rw [e2] at w
    exact w⟩
theorem k_slen (hd : decode M.2.1 pc = .ok (.arraylength, 1)) (hl : (k_kd A (-2)).2 < 2147483648) (k : k_AW d M (pc + 1) ls ((0, (k_kd A (-2)).2) :: st) A r A') : k_AW d M pc ls ((1, -2) :: st) A r A' :=
  ⟨k.1, fun p l e R s m args below meth c Q D cy A0 al0 sc ob al H locs cells slots LS C G F Y L gl gs => by
    obtain ⟨-, -, -, ⟨x1, x2, x3⟩, -, -, -⟩ := C.2.2.2.2.2.2.2.2.2.2.2.2
    have Y0 := Y
    obtain ⟨-, -, yS, -, ysc, -, yn, ya⟩ := Y0
    have ea : al (-2) = al0 (-2) := ya (-2) (by omega)
    have w := k.2 p l e R s m args below meth c Q D cy A0 al0 sc ob al H locs cells slots LS C G F Y L gl (k_gl_cons.mpr ⟨⟨by show (-2147483648 : Int) ≤ ((k_kd A (-2)).2 : Int); omega, by show ((k_kd A (-2)).2 : Int) < 2147483648; omega⟩, (k_gl_cons.mp gs).2⟩)
    rw [List.map_cons]
    have e1 : k_tv al (1, -2) = .ref (al0 (-2)) := by
      show va_rf (k_orf al (-2)) = _
      unfold k_orf; rw [if_neg (by decide), ea]; rfl
    rw [e1]
    refine va_slen C.1 C.2.1 x1 x2 x3 yS hd ?_
    rw [List.map_cons, ysc.1] at w
    have e2 : k_tv al (0, ((sc.1 : Nat) : Int)) = .int (Int32.ofNat sc.1) := congrArg Value.int Int32.ofInt_eq_ofNat
    have w : W p l e R s m args below meth c H locs cells slots Q (F0 m (pc + 1) LS (k_tv al (0, ((sc.1 : Nat) : Int)) :: st.map (k_tv al))) := w
    rw [e2] at w
    exact w⟩
theorem k_iastore {a i x : Int} (hd : decode M.2.1 pc = .ok (.iastore, 1)) (ha : k_isA A a 21 i) (k : k_AW d M (pc + 1) ls st (k_wt A a i (x)) r A') : k_AW d M pc ls ((0, x) :: (0, i) :: (1, a) :: st) A r A' :=
  ⟨k.1, fun p l e R s m args below meth c Q D cy A0 al0 sc ob al H locs cells slots LS C G F Y L gl gs => by
    obtain ⟨h0, hN, hk, hi0, hi⟩ := ha
    have gi := (k_gl_cons.mp (k_gl_cons.mp gs).2).1
    obtain ⟨v1, v2⟩ := k_vin gi hi0 hi
    rw [List.map_cons, List.map_cons, List.map_cons, k_ref h0]
    refine va_iast (D := D) (H0 := s.heap) C.1 C.2.1 C.2.2.2.2.2.2.2.2.1 Y.1 Y.2.1 Y.2.2.1 a.toNat 1 ((k_ws_at h0 hN).trans (by rw [k_cell_i hk (by decide) (by decide)])) rfl v1 hd (fun H1 locs1 hP hD hS => ?_)
    rw [v2] at hP hD
    have hu : upd (fun (j : Nat) => Int32.ofInt (k_rd A a j)) i.toNat (Int32.ofInt x) = fun (j : Nat) => Int32.ofInt (if (j : Int) = i then (x) else k_rd A a j) := by
      funext j
      show (if j = i.toNat then _ else _) = _
      by_cases e : j = i.toNat
      · have e2 : (j : Int) = i := by rw [e]; exact k_toN hi0
        rw [if_pos e, if_pos e2]
      · have e2 : ¬ (j : Int) = i := fun z => e (by omega)
        rw [if_neg e, if_neg e2]
    exact k.2 p l e R s m args below meth c Q D cy A0 al0 sc ob al H1 locs1 cells slots LS C G F (k_Dy_wt Y h0 (by rw [hk]; exact (k_gl_cons.mp gs).1) (by rw [k_cell_i hk (by decide) (by decide), ← hu]) hP hD hS) L gl (k_gl_cons.mp (k_gl_cons.mp (k_gl_cons.mp gs).2).2).2⟩
theorem k_bastore {a i x : Int} (hd : decode M.2.1 pc = .ok (.bastore, 1)) (ha : k_isA A a 20 i) (k : k_AW d M (pc + 1) ls st (k_wt A a i (k_b8 x)) r A') : k_AW d M pc ls ((0, x) :: (0, i) :: (1, a) :: st) A r A' :=
  ⟨k.1, fun p l e R s m args below meth c Q D cy A0 al0 sc ob al H locs cells slots LS C G F Y L gl gs => by
    obtain ⟨h0, hN, hk, hi0, hi⟩ := ha
    have gi := (k_gl_cons.mp (k_gl_cons.mp gs).2).1
    obtain ⟨v1, v2⟩ := k_vin gi hi0 hi
    rw [List.map_cons, List.map_cons, List.map_cons, k_ref h0]
    refine va_bast (D := D) (H0 := s.heap) C.1 C.2.1 C.2.2.2.2.2.2.2.2.1 Y.1 Y.2.1 Y.2.2.1 a.toNat 0 ((k_ws_at h0 hN).trans (by rw [k_cell_i hk (by decide) (by decide)])) rfl v1 hd (fun H1 locs1 hP hD hS => ?_)
    rw [v2] at hP hD
    have hu : upd (fun (j : Nat) => Int32.ofInt (k_rd A a j)) i.toNat (vp_nar .byte (Int32.ofInt x)) = fun (j : Nat) => Int32.ofInt (if (j : Int) = i then (k_b8 x) else k_rd A a j) := by
      funext j
      show (if j = i.toNat then _ else _) = _
      by_cases e : j = i.toNat
      · have e2 : (j : Int) = i := by rw [e]; exact k_toN hi0
        rw [if_pos e, if_pos e2]; rw [vp_nar_byte]; exact (Int32.ofInt_toInt _).symm
      · have e2 : ¬ (j : Int) = i := fun z => e (by omega)
        rw [if_neg e, if_neg e2]
    exact k.2 p l e R s m args below meth c Q D cy A0 al0 sc ob al H1 locs1 cells slots LS C G F (k_Dy_wt Y h0 (by rw [hk]; exact k_gi _ _) (by rw [k_cell_i hk (by decide) (by decide), ← hu]) hP hD hS) L gl (k_gl_cons.mp (k_gl_cons.mp (k_gl_cons.mp gs).2).2).2⟩
theorem k_lastore {a i x : Int} (hd : decode M.2.1 pc = .ok (.lastore, 1)) (ha : k_isA A a 22 i) (k : k_AW d M (pc + 1) ls st (k_wt A a i (x)) r A') : k_AW d M pc ls ((2, x) :: (0, i) :: (1, a) :: st) A r A' :=
  ⟨k.1, fun p l e R s m args below meth c Q D cy A0 al0 sc ob al H locs cells slots LS C G F Y L gl gs => by
    obtain ⟨h0, hN, hk, hi0, hi⟩ := ha
    have gi := (k_gl_cons.mp (k_gl_cons.mp gs).2).1
    obtain ⟨v1, v2⟩ := k_vin gi hi0 hi
    rw [List.map_cons, List.map_cons, List.map_cons, k_ref h0]
    refine va_last (D := D) (H0 := s.heap) C.1 C.2.1 C.2.2.2.2.2.2.2.2.1 Y.1 Y.2.1 Y.2.2.1 a.toNat 2 ((k_ws_at h0 hN).trans (by rw [k_cell_l hk])) rfl v1 hd (fun H1 locs1 hP hD hS => ?_)
    rw [v2] at hP hD
    have hu : vp_updL (fun (j : Nat) => Int64.ofInt (k_rd A a j)) i.toNat (Int64.ofInt x) = fun (j : Nat) => Int64.ofInt (if (j : Int) = i then (x) else k_rd A a j) := by
      funext j
      show (if j = i.toNat then _ else _) = _
      by_cases e : j = i.toNat
      · have e2 : (j : Int) = i := by rw [e]; exact k_toN hi0
        rw [if_pos e, if_pos e2]
      · have e2 : ¬ (j : Int) = i := fun z => e (by omega)
        rw [if_neg e, if_neg e2]
    exact k.2 p l e R s m args below meth c Q D cy A0 al0 sc ob al H1 locs1 cells slots LS C G F (k_Dy_wt Y h0 (by rw [hk]; exact (k_gl_cons.mp gs).1) (by rw [k_cell_l hk, ← hu]) hP hD hS) L gl (k_gl_cons.mp (k_gl_cons.mp (k_gl_cons.mp gs).2).2).2⟩
theorem k_aastore {a i x : Int} {K ci : Nat} (hd : decode M.2.1 pc = .ok (.aastore, 1)) (hK : (K = 23 ∧ ci = 1) ∨ (K = 24 ∧ ci = 4)) (ha : k_isA A a K i) (hx : k_isO A x ci) (k : k_AW d M (pc + 1) ls st (k_wt A a i x) r A') : k_AW d M pc ls ((1, x) :: (0, i) :: (1, a) :: st) A r A' :=
  ⟨k.1, fun p l e R s m args below meth c Q D cy A0 al0 sc ob al H locs cells slots LS C G F Y L gl gs => by
    obtain ⟨h0, hN, hk, hi0, hi⟩ := ha
    obtain ⟨x0, xN, xk⟩ := hx
    have gi := (k_gl_cons.mp (k_gl_cons.mp gs).2).1
    have gx := (k_gl_cons.mp gs).1
    obtain ⟨v1, v2⟩ := k_vin gi hi0 hi
    rw [List.map_cons, List.map_cons, List.map_cons, k_ref h0, k_ref x0]
    have hu : va_up (fun (j : Nat) => k_orf al (k_rd A a j)) i.toNat (some (al x)) = fun (j : Nat) => k_orf al (if (j : Int) = i then x else k_rd A a j) := by
      funext j
      show (if j = i.toNat then _ else _) = _
      by_cases e : j = i.toNat
      · have e2 : (j : Int) = i := by rw [e]; exact k_toN hi0
        rw [if_pos e, if_pos e2]; unfold k_orf; rw [if_neg (by omega)]
      · have e2 : ¬ (j : Int) = i := fun z => e (by omega)
        rw [if_neg e, if_neg e2]
    rcases hK with ⟨rfl, rfl⟩ | ⟨rfl, rfl⟩
    · refine va_astq (D := D) (H0 := s.heap) (r := (RX1, TX1, 6)) C.1 C.2.1 C.2.2.2.2.2.2.2.2.1 Y.1 Y.2.1 Y.2.2.1 a.toNat 3 x.toNat 1 ((k_ws_at h0 hN).trans (by rw [k_cell_r hk (by decide)])) rfl ((k_ws_at x0 xN).trans (by rw [k_cell_o xk (by decide)])) rfl v1 hd (fun H1 locs1 hP hD hS => ?_)
      rw [v2] at hP hD
      exact k.2 p l e R s m args below meth c Q D cy A0 al0 sc ob al H1 locs1 cells slots LS C G F (k_Dy_wt Y h0 (by rw [hk]; exact gx) (by rw [k_cell_r hk (by decide), ← hu]) hP hD hS) L gl (k_gl_cons.mp (k_gl_cons.mp (k_gl_cons.mp gs).2).2).2
    · refine va_astq (D := D) (H0 := s.heap) (r := (RX4, TX4, 10)) C.1 C.2.1 C.2.2.2.2.2.2.2.2.1 Y.1 Y.2.1 Y.2.2.1 a.toNat 4 x.toNat 4 ((k_ws_at h0 hN).trans (by rw [k_cell_r hk (by decide)])) rfl ((k_ws_at x0 xN).trans (by rw [k_cell_o xk (by decide)])) rfl v1 hd (fun H1 locs1 hP hD hS => ?_)
      rw [v2] at hP hD
      exact k.2 p l e R s m args below meth c Q D cy A0 al0 sc ob al H1 locs1 cells slots LS C G F (k_Dy_wt Y h0 (by rw [hk]; exact gx) (by rw [k_cell_r hk (by decide), ← hu]) hP hD hS) L gl (k_gl_cons.mp (k_gl_cons.mp (k_gl_cons.mp gs).2).2).2⟩
end
