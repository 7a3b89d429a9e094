/-! the walk over the pure picture: AW at a place of a method, AM of a whole method -/
def k_GW : List Cond := lw_tbl.filter goodWord
theorem k_gw {w : Cond} (h : w ∈ lw_tbl) (g : goodWord w = true) : w ∈ k_GW := List.mem_filter.mpr ⟨h, g⟩
theorem k_gt {w : Cond} (i : Nat) (h : tables_1[i]? = some w) (g : goodWord w = true) : w ∈ k_GW := k_gw (List.mem_append_right _ (List.mem_of_getElem? h)) g
theorem k_gp {w : Cond} (i : Nat) (h : (k2_sels lw_privs)[i]? = some w) (g : goodWord w = true) : w ∈ k_GW := k_gw (List.mem_append_left _ (List.mem_of_getElem? h)) g
def k_NW : List (String × Nat × MethodName × String) := [("VanPlays", 9, yX5_init, "VanPlays"), ("VanPlays", 30, yX3_init, "VanPlays"), ("VanPlays", 37, yX2_init, "VanPlays"), ("VanPlays", 44, yX7_init, "VanPlays"), ("VanPlays$TermsReader", 11, yX6_init, "VanPlays"), ("VanPlays$TermsReader", 20, yX5_init, "VanPlays"), ("VanPlays", 49, yX1_init, "VanPlays"), ("VanPlays$Show", 29, yX6_init, "VanPlays"), ("VanPlays$TermsReader", 138, yX8_isWithin, "VanPlays")]
def k_SR : List (String × Nat × String) := [("VanPlays$TermsReader", 68, "fee"), ("VanPlays$TermsReader", 77, "share"), ("VanPlays$TermsReader", 121, "above"), ("VanPlays$TermsReader", 82, "subsidy"), ("VanPlays$TermsReader", 127, "most"), ("VanPlays$TermsReader", 87, "loss"), ("VanPlays$TermsReader", 131, "both"), ("VanPlays$TermsReader", 136, "hall"), ("VanPlays", 209, "no such show, night or part"), ("VanPlays", 214, "no door was told"), ("VanPlays", 219, "no such hall")]
def k_sb : List (List Int32) := k_SR.map fun q => q.2.2.toList.map fun c => Int32.ofNat c.toNat
def k_sl : List Nat := k_sb.map List.length
def k_CA : List (String × String) := [("java/util/NoSuchElementException", "java/util/NoSuchElementException"), ("VanPlays", "java/lang/Object"), ("VanPlays$Tape", "java/lang/Object"), ("VanPlays$Plugging", "java/lang/Object"), ("VanPlays$Planner", "java/lang/Object"), ("VanPlays$TermsReader", "java/lang/Object"), ("VanPlays$Terms", "java/lang/Object"), ("VanPlays$Hall", "java/lang/Object"), ("VanPlays$Amps", "java/lang/Object"), ("VanPlays$Show", "java/lang/Object"), ("VanPlaysModel", "java/lang/Object"), ("java/util/NoSuchElementException", "java/lang/Object"), ("java/lang/Throwable", "java/lang/Object"), ("java/lang/String", "java/lang/Object")]
def k_DE : List MethodName := [⟨"java/lang/RuntimeException", "<init>", "()V"⟩, ⟨"java/lang/RuntimeException", "<init>", "(Ljava/lang/String;)V"⟩, ⟨"java/lang/Exception", "<init>", "()V"⟩, ⟨"java/lang/Exception", "<init>", "(Ljava/lang/String;)V"⟩, ⟨"java/lang/Throwable", "<init>", "()V"⟩, ⟨"java/lang/Throwable", "<init>", "(Ljava/lang/String;)V"⟩]
/-- what the walk knows beside the words: nest links, classes of arrays, the script, the texts, a static -/
def k_EX (al : Int → Nat) (sc : Nat × (Nat → Int32)) (A0 : Nat → Prop) (U : State) : Prop :=
  (∀ q ∈ k_NW, va_Nw (.methodLinkNest q.1 q.2.1 q.2.2.1 q.2.2.2) U) ∧ va_AO RX1 U ∧ va_AO RX4 U ∧ (va_X (al (-2)) sc.1 sc.2 U U.heap ∧ al (-2) < U.heap.size ∧ ¬ A0 (al (-2))) ∧
  vk_S 11 k_sl k_sb (fun k => al (-10 - (k : Int))) (fun k => al (-40 - (k : Int))) A0 U U.heap ∧ (∀ (i : Nat) (q : String × Nat × String), k_SR[i]? = some q → vk_R q.1 q.2.1 q.2.2 (al (-10 - (i : Int))) U) ∧ va_Z "java/lang/String" "COMPACT_STRINGS" "Z" (.int 1) A0 U U.heap ∧
  (va_Z "jdk/internal/util/Preconditions" "SIOOBE_FORMATTER" "Ljava/util/function/BiFunction;" .null A0 U U.heap ∨ va_Z "jdk/internal/util/Preconditions" "SIOOBE_FORMATTER" "Ljava/util/function/BiFunction;" (.ref (al (-3))) A0 U U.heap) ∧ (∀ q ∈ k_CA, va_Nw (.castable q.1 q.2) U) ∧ (∀ x ∈ k_DE, va_Nw (.declares x) U) ∧
  vx_Zq "java/lang/Throwable" "UNASSIGNED_STACK" "[Ljava/lang/StackTraceElement;" A0 U U.heap ∧ vx_Zq "java/lang/Throwable" "SUPPRESSED_SENTINEL" "Ljava/util/List;" A0 U U.heap
theorem k_EX.move {al al' : Int → Nat} {sc : Nat × (Nat → Int32)} {A0 A1 : Nat → Prop} {s U : State} {H : Heap} {locs : List Loc} (h : k_EX al sc A0 s) (hal : ∀ a : Int, a < 0 → al' a = al a) (hS : va_S A0 s.heap H locs) (hU : U.heap = H) (hW : s.WarmedH U.vm) (hA : ∀ q, A1 q → A0 q) : k_EX al' sc A1 U := by
  obtain ⟨h1, h2, h3, ⟨h4, h5, h6⟩, h7, h8, h9, h10, h11, h12, h13, h14⟩ := h
  have hal2 : (fun k : Nat => al' (-10 - (k : Int))) = fun k : Nat => al (-10 - (k : Int)) := funext fun k => hal _ (by omega)
  have hal3 : (fun k : Nat => al' (-40 - (k : Int))) = fun k : Nat => al (-40 - (k : Int)) := funext fun k => hal _ (by omega)
  refine ⟨fun q hq => (h1 q hq).warmM hW, h2.moved hW.alike, h3.moved hW.alike, ?_, ?_, fun i q hq => ?_, ?_, ?_, fun q hq => (h11 q hq).warmC hW, fun x hx => (h12 x hx).warmD hW, ?_, ?_⟩
  · rw [hal (-2) (by omega), hU]
    exact ⟨(h4.moved hW.alike).kept (hS.2.1 _ h5 h6), Nat.lt_of_lt_of_le h5 hS.1, fun z => h6 (hA _ z)⟩
  · rw [hal2, hal3, hU]
    exact ((h7.moved hW.alike).kept (fun a ha hn => hS.2.1 a ha hn)).narrow hA
  · rw [hal _ (by omega)]
    exact (h8 i q hq).warm hW
  · rw [hU]
    exact ((h9.moved hW.alike).kept (fun a ha hn => hS.2.1 a ha hn)).narrow hA
  · rw [hU, hal (-3) (by omega)]
    exact h10.imp (fun h => ((h.moved hW.alike).kept (fun a ha hn => hS.2.1 a ha hn)).narrow hA) (fun h => ((h.moved hW.alike).kept (fun a ha hn => hS.2.1 a ha hn)).narrow hA)
  · rw [hU]
    exact ((h13.moved hW.alike).kept (fun a ha hn => hS.2.1 a ha hn)).narrow hA
  · rw [hU]
    exact ((h14.moved hW.alike).kept (fun a ha hn => hS.2.1 a ha hn)).narrow hA
theorem k_EX.calling {al : Int → Nat} {sc : Nat × (Nat → Int32)} {A0 : Nat → Prop} {U : State} {g : JFrame} {mk : MethodId} {a : Array Value} (h : k_EX al sc A0 U) : k_EX al sc A0 (U.calling g mk a) := by
  obtain ⟨h1, h2, h3, ⟨h4, h5, h6⟩, h7, h8, h9, h10, h11, h12, h13, h14⟩ := h
  exact ⟨fun q hq => va_Nw.same rfl (u := U) rfl (h1 q hq), h2.moved (Vm.Alike.refl U.vm), h3.moved (Vm.Alike.refl U.vm), ⟨h4.moved (Vm.Alike.refl U.vm), h5, h6⟩, h7.moved (Vm.Alike.refl U.vm), fun i q hq => (h8 i q hq).same rfl, h9.moved (Vm.Alike.refl U.vm), h10.imp (fun h => h.moved (Vm.Alike.refl U.vm)) (fun h => h.moved (Vm.Alike.refl U.vm)), fun q hq => va_Nw.same rfl (u := U) rfl (h11 q hq), fun x hx => va_Nw.same rfl (u := U) rfl (h12 x hx), h13.moved (Vm.Alike.refl U.vm), h14.moved (Vm.Alike.refl U.vm)⟩
/-- the script in the picture -/
def k_sc (A : k_H) (sc : Nat × (Nat → Int32)) : Prop := k_kd A (-2) = (30, sc.1) ∧ ∀ j : Nat, j < sc.1 → k_rd A (-2) j = (sc.2 j).toInt
/-- the locals -/
def k_lo (al : Int → Nat) (nL : Nat) (ls : List k_V) (LS : Array Slot) : Prop := LS.size = nL ∧ lv_wf LS ∧ ∀ (k : Nat) (v : k_V), ls[k]? = some v → v.1 < 3 → LS[k]? = some (.val (k_tv al v))
def k_le (A B : k_H) : Prop := k_N A ≤ k_N B ∧ k_U A ≤ k_U B ∧ k_T A ≤ k_T B
theorem k_le_rf (A : k_H) : k_le A A := ⟨Nat.le_refl _, Nat.le_refl _, Nat.le_refl _⟩
theorem k_le_tr {A B C : k_H} (h : k_le A B) (g : k_le B C) : k_le A C := ⟨Nat.le_trans h.1 g.1, Nat.le_trans h.2.1 g.2.1, Nat.le_trans h.2.2 g.2.2⟩
/-- what stays over a method's walk -/
def k_Cx (d : Nat) (M : k_M) (p : Program) (R : Room) (s : State) (m : MethodId) (args : Array Value) (meth : Method) (c : Code) (D : va_G) (cy : Nat → ClassId) (A0 : Nat → Prop) (al0 : Int → Nat) (sc : Nat × (Nat → Int32)) : Prop :=
  p.tables.exec = Jvm.exec ∧ c.code = M.2.1 ∧ c.maxLocals = M.2.2.1 ∧ meth.sig.returnType = M.2.2.2 ∧ s.vm.findClass M.1.cls = some m.cls ∧ (∀ w ∈ k_GW, w.before args s = true) ∧ meth.locks = false ∧ meth.name = M.1.name ∧ va_K D vwCl (k_TY cy) s ∧ (∀ q, s.heap.size ≤ q → A0 q) ∧ d ≤ R.frames ∧ 50 * d ≤ R.locals ∧ k_EX al0 sc A0 s
/-- what moves -/
def k_Dy (s : State) (D : va_G) (cy : Nat → ClassId) (A0 : Nat → Prop) (al0 : Int → Nat) (sc : Nat × (Nat → Int32)) (o : Nat × Nat × Nat) (al : Int → Nat) (A : k_H) (H : Heap) (locs : List Loc) (cells slots : Nat) : Prop :=
  va_P D vwCl (k_ws cy al A) H ∧ va_D A0 (k_ws cy al A) ∧ va_S A0 s.heap H locs ∧ k_gh A ∧ k_sc A sc ∧ (cells + o.2.1 = k_U A ∧ slots + o.2.2 = k_T A) ∧ o.1 ≤ k_N A ∧ ∀ a : Int, a < o.1 → al a = al0 a
def k_Rm (R : Room) (o : Nat × Nat × Nat) (A : k_H) : Prop := k_U A ≤ R.cells + o.2.1 ∧ k_T A ≤ R.slots + o.2.2
/-- what stands for a throw -/
def k_EXC : Int := 1099511627776
def k_nothr (M : k_M) : Bool := !(M.1.cls == "VanPlays" && (M.1.name == "shared" || M.1.name == "keeps"))
/-- the tables of handlers of the law's two helpers -/
def k_hh (M : k_M) : Option (List (Nat × Nat × Nat × Nat)) := if M.1.cls == "VanPlaysLaw" then (if M.1.name == "shared" then some [(0, 12, 15, 13)] else if M.1.name == "keeps" then some [(0, 9, 12, 13)] else none) else none
def k_tab (M : k_M) (c : Code) : Prop := ∀ h, k_hh M = some h → c.exceptionTable.toList.map (fun h => (h.startPc, h.endPc, h.handlerPc, h.catchType)) = h
/-- at 'throw new NoSuchElementException("..")' -/
def k_thr (M : k_M) (pc : Nat) (st : List Value) (r : Int) : Prop := k_nothr M = false ∧ r = k_EXC ∧ st = [] ∧ ∃ (ik is j : Nat) (tx : String), decode M.2.1 pc = .ok (.new ik, 3) ∧ decode M.2.1 (pc + 3) = .ok (.dup, 1) ∧ decode M.2.1 (pc + 4) = .ok (.ldc is, 2) ∧ decode M.2.1 (pc + 6) = .ok (.invokespecial 211, 3) ∧ decode M.2.1 (pc + 9) = .ok (.athrow, 1) ∧ k_SR[j]? = some (M.1.cls, is, tx) ∧ Cond.classLink M.1.cls ik "java/util/NoSuchElementException" ∈ k_GW
/-- the answer's kind: a long, or not -/
def k_rt (M : k_M) : Nat := match M.2.2.2 with
  | some .long => 2
  | _ => 0
/-- at a return of a long -/
def k_lrt (M : k_M) (pc : Nat) (st : List Value) (r : Int) : Prop := k_nothr M = true ∧ M.2.2.2 = some .long ∧ decode M.2.1 pc = .ok (.lreturn, 1) ∧ st = [.long (Int64.ofInt r)] ∧ k_gv 0 (2, r)
/-- at a return -/
def k_Rt (M : k_M) (pc : Nat) (st : List Value) (r : Int) : Prop :=
  (M.2.2.2 = none ∧ decode M.2.1 pc = .ok (.return_, 1) ∧ st = [] ∧ r = 0) ∨ (∃ ty : FieldType, M.2.2.2 = some ty ∧ decode M.2.1 pc = .ok (.ireturn, 1) ∧ st = [.int (Int32.ofInt r)] ∧ narrow ty (.int (Int32.ofInt r)) = .int (Int32.ofInt r) ∧ k_gv 0 (0, r) ∧ k_rt M = 0) ∨ k_thr M pc st r ∨ k_lrt M pc st r
def k_Fin (M : k_M) (p : Program) (l : Launch) (e : Env) (R : Room) (s : State) (m : MethodId) (args : Array Value) (below : List Frame) (meth : Method) (c : Code) (Q : State → Prop) (D : va_G) (cy : Nat → ClassId) (A0 : Nat → Prop) (al0 : Int → Nat) (sc : Nat × (Nat → Int32)) (o : Nat × Nat × Nat) (r : Int) (A' : k_H) : Prop :=
  l.stackTraces = false ∧ k_tab M c ∧ ∀ (al : Int → Nat) (H : Heap) (locs : List Loc) (cells slots pc : Nat) (LS : Array Slot) (st : List Value), k_Dy s D cy A0 al0 sc o al A' H locs cells slots → LS.size = M.2.2.1 → k_Rt M pc st r → W p l e R s m args below meth c H locs cells slots Q (F0 m pc LS st)
def k_AW (d : Nat) (M : k_M) (pc : Nat) (ls st : List k_V) (A : k_H) (r : Int) (A' : k_H) : Prop :=
  k_le A A' ∧ ∀ (p : Program) (l : Launch) (e : Env) (R : Room) (s : State) (m : MethodId) (args : Array Value) (below : List Frame) (meth : Method) (c : Code) (Q : State → Prop) (D : va_G) (cy : Nat → ClassId) (A0 : Nat → Prop) (al0 : Int → Nat) (sc : Nat × (Nat → Int32)) (o : Nat × Nat × Nat) (al : Int → Nat) (H : Heap) (locs : List Loc) (cells slots : Nat) (LS : Array Slot),
    k_Cx d M p R s m args meth c D cy A0 al0 sc → k_Rm R o A' → k_Fin M p l e R s m args below meth c Q D cy A0 al0 sc o r A' → k_Dy s D cy A0 al0 sc o al A H locs cells slots → k_lo al M.2.2.1 ls LS → k_gl (k_N A) ls → k_gl (k_N A) st →
    W p l e R s m args below meth c H locs cells slots Q (F0 m pc LS (st.map (k_tv al)))
/-- a method's answer as the machine has it -/
def k_rv (M : k_M) (r : Int) : Option Value := M.2.2.2.map fun _ => k_tv (fun _ => 0) (k_rt M, r)
def k_Pc (as : List k_V) (A : k_H) (D : va_G) (cy : Nat → ClassId) (al0 : Int → Nat) (sc : Nat × (Nat → Int32)) (sz : Nat) : Array Value → State → Prop := fun v U =>
  v = (as.map (k_tv al0)).toArray ∧ U.heap.size = sz ∧ va_P D vwCl (k_ws cy al0 A) U.heap ∧ va_D (fun _ => True) (k_ws cy al0 A) ∧ va_K D vwCl (k_TY cy) U ∧ k_gh A ∧ k_gl (k_N A) as ∧ k_sc A sc ∧ k_EX al0 sc (va_A (k_ws cy al0 A) sz) U
def k_Qc (M : k_M) (A : k_H) (D : va_G) (cy : Nat → ClassId) (al0 : Int → Nat) (sc : Nat × (Nat → Int32)) (sz : Nat) (r : Int) (A1 : k_H) : Array Value → State → Outcome → State → Prop := fun _ st oc t =>
  (∃ al : Int → Nat, (∀ a : Int, a < k_N A → al a = al0 a) ∧ oc = .returned (k_rv M r) ∧ va_P D vwCl (k_ws cy al A1) t.heap ∧ va_D (va_A (k_ws cy al0 A) sz) (k_ws cy al A1) ∧ k_gh A1 ∧ k_sc A1 sc ∧ k_gv 0 (k_rt M, r)) ∧ va_F (va_A (k_ws cy al0 A) sz) st t
def k_AM (d : Nat) (M : k_M) (as : List k_V) (A : k_H) (r : Int) (A1 : k_H) : Prop :=
  k_le A A1 ∧ ∀ (l : Launch), l.stackTraces = false → ∀ (D : va_G) (cy : Nat → ClassId) (al0 : Int → Nat) (sc : Nat × (Nat → Int32)) (sz : Nat),
    Met l M.1 (.code M.1 M.2.1 M.2.2.1 M.2.2.2 :: k_GW) { frames := d, cells := k_U A1 - k_U A, slots := k_T A1 - k_T A, locals := 50 * d } (k_Pc as A D cy al0 sc sz) (k_Qc M A D cy al0 sc sz r A1) (k_U A1 - k_U A) (k_T A1 - k_T A) (va_A (k_ws cy al0 A) sz)
/-- the locals at the entry -/
def k_en : List k_V → List k_V
  | [] => []
  | v :: l => if v.1 = 2 then v :: (3, 0) :: k_en l else v :: k_en l
theorem k_cat (al : Int → Nat) (v : k_V) (h : v.1 < 3) : (k_tv al v).category = if v.1 = 2 then 2 else 1 := by
  obtain ⟨t, x⟩ := v
  match t, h with
  | 0, _ => rfl
  | 1, _ =>
    show (va_rf (k_orf al x)).category = 1
    cases k_orf al x <;> rfl
  | 2, _ => rfl
theorem k_en_args (al : Int → Nat) : ∀ (as : List k_V), (∀ v ∈ as, v.1 < 3) → ∀ (i k : Nat) (v : k_V), (k_en as)[k]? = some v → v.1 < 3 → (i + k, k_tv al v) ∈ lv_args i (as.map (k_tv al)) := by
  intro as
  induction as with
  | nil => intro _ i k v h; simp [k_en] at h
  | cons a l ih =>
    intro hs i k v h hv
    have ha : a.1 < 3 := hs a List.mem_cons_self
    have ih := ih (fun v hv => hs v (List.mem_cons_of_mem _ hv))
    rw [List.map_cons, lv_args, k_cat al a ha]
    unfold k_en at h
    by_cases h2 : a.1 = 2
    · rw [if_pos h2] at h
      rw [if_pos h2, if_pos rfl]
      match k, h with
      | 0, h => cases h; exact List.mem_cons_self
      | 1, h => cases h; omega
      | k + 2, h =>
        have := ih (i + 2) k v h hv
        rw [show i + (k + 2) = i + 2 + k by omega]
        exact List.mem_cons_of_mem _ this
    · rw [if_neg h2] at h
      rw [if_neg h2, if_neg (by decide)]
      match k, h with
      | 0, h => cases h; exact List.mem_cons_self
      | k + 1, h =>
        have := ih (i + 1) k v h hv
        rw [show i + (k + 1) = i + 1 + k by omega]
        exact List.mem_cons_of_mem _ this
theorem k_en_len (al : Int → Nat) : ∀ (as : List k_V), (∀ v ∈ as, v.1 < 3) → (lg_sl (as.map (k_tv al))).length = (k_en as).length := by
  intro as
  induction as with
  | nil => intro _; rfl
  | cons a l ih =>
    intro hs
    have ha : a.1 < 3 := hs a List.mem_cons_self
    have ih := ih (fun v hv => hs v (List.mem_cons_of_mem _ hv))
    rw [List.map_cons]
    have : lg_sl (k_tv al a :: l.map (k_tv al)) = (if (k_tv al a).category = 2 then [.val (k_tv al a), .second] else [.val (k_tv al a)]) ++ lg_sl (l.map (k_tv al)) := by simp [lg_sl]
    have e : k_en (a :: l) = if a.1 = 2 then a :: (3, 0) :: k_en l else a :: k_en l := rfl
    rw [this, List.length_append, ih, k_cat al a ha, e]
    by_cases h2 : a.1 = 2
    · rw [if_pos h2, if_pos h2, if_pos rfl]
      simp only [List.length_cons, List.length_nil]
      omega
    · rw [if_neg h2, if_neg h2, if_neg (by decide)]
      simp only [List.length_cons, List.length_nil]
      omega
/-- fewer known locals -/
theorem k_lo_sub {al : Int → Nat} {nL : Nat} {ls ls' : List k_V} {LS : Array Slot} (h : k_lo al nL ls LS) (hs : ∀ (k : Nat) (v : k_V), ls'[k]? = some v → v.1 < 3 → ls[k]? = some v) : k_lo al nL ls' LS := ⟨h.1, h.2.1, fun k v hk hv => h.2.2 k v (hs k v hk hv) hv⟩
theorem k_lo_al {al al' : Int → Nat} {n nL : Nat} {ls : List k_V} {LS : Array Slot} (h : k_lo al nL ls LS) (ha : ∀ a : Int, a < n → al' a = al a) (g : k_gl n ls) : k_lo al' nL ls LS := ⟨h.1, h.2.1, fun k v hk hv => by rw [k_tv_al ha (g v (List.mem_of_getElem? hk)) hv]; exact h.2.2 k v hk hv⟩
theorem k_st_al {al al' : Int → Nat} {n : Nat} {st : List k_V} (ha : ∀ a : Int, a < n → al' a = al a) (g : k_gl n st) (ht : ∀ v ∈ st, v.1 < 3) : st.map (k_tv al') = st.map (k_tv al) := List.map_congr_left fun v hv => k_tv_al ha (g v hv) (ht v hv)
set_option maxHeartbeats 4000000 in
/-- a method out of its body -/
theorem k_AM_of {d : Nat} {M : k_M} {as ls : List k_V} {A : k_H} {r : Int} {A1 : k_H} (hnt : k_nothr M = true ∨ r ≠ k_EXC) (hh0 : k_hh M = none) (hp : plainName M.1.cls = true) (ht : ∀ v ∈ as, v.1 < 3) (hl : (k_en as).length ≤ M.2.2.1) (hls : ∀ (k : Nat) (v : k_V), ls[k]? = some v → v.1 < 3 → (k_en as)[k]? = some v) (hg : k_gl (k_N A) as → k_gl (k_N A) ls) (h : k_AW d M 0 ls [] A r A1) : k_AM d M as A r A1 := by
  refine ⟨h.1, fun l hl9 D cy al0 sc sz => ?_⟩
  refine Met.ofW (cc := M.2.1) (maxL := M.2.2.1) (ret := M.2.2.2) hp rfl ?_
  intro p e s m args below meth c s₁ B hml hv
  obtain ⟨rfl, hsz, hP, hD, hK, gh, ga, hsc, hEX⟩ := hv
  subst hsz
  have hts := atoms_spec (ws := .code M.1 M.2.1 M.2.2.1 M.2.2.2 :: k_GW) B.pre
  have hC : k_Cx d M p { frames := d, cells := k_U A1 - k_U A, slots := k_T A1 - k_T A, locals := 50 * d } s m (as.map (k_tv al0)).toArray meth c D cy (va_A (k_ws cy al0 A) s.heap.size) al0 sc :=
    ⟨B.exec, B.bytes, hml, B.returns, findClass_of_methodNamed B.named, fun w hw => hts w (List.mem_cons_of_mem _ hw), B.notSynchronized, (name_of_methodNamed B.named B.method).1, hK, fun q hq => Or.inr hq, Nat.le_refl _, Nat.le_refl _, hEX⟩
  have hlen := k_en_len al0 as ht
  rw [lg_entry_eq]
  have hl0 := lv_entry (as.map (k_tv al0)) (n := M.2.2.1) (by rw [hlen]; exact hl)
  refine h.2 p l e _ s m _ below meth c _ D cy (va_A (k_ws cy al0 A) s.heap.size) al0 sc (k_N A, k_U A, k_T A) al0 s.heap [] 0 0 _ hC ⟨?_, ?_⟩ ?_ ⟨hP, hD.self, va_S.rf, gh, hsc, ⟨Nat.zero_add _, Nat.zero_add _⟩, Nat.le_refl _, fun _ _ => rfl⟩ ⟨hl0.1, hl0.2.1, fun k v hk hv => ?_⟩ (hg ga) k_gl_nil
  · show k_U A1 ≤ k_U A1 - k_U A + k_U A
    omega
  · show k_T A1 ≤ k_T A1 - k_T A + k_T A
    omega
  · refine ⟨hl9, (fun h hh => by rw [hh0] at hh; cases hh), ?_⟩
    intro al H locs cells slots pc LS st Y hLS hr
    obtain ⟨yP, yD, yS, yg, ysc, ⟨yc, ys⟩, yn, ya⟩ := Y
    have ec : cells = k_U A1 - k_U A := by
      have : cells + k_U A = k_U A1 := yc
      omega
    have es : slots = k_T A1 - k_T A := by
      have : slots + k_T A = k_T A1 := ys
      omega
    subst ec; subst es
    rcases hr with ⟨h1, h2, rfl, rfl⟩ | ⟨ty, h1, h2, rfl, h4, h5, h6⟩ | ⟨ht1, ht2, -⟩ | ⟨-, h1, h2, rfl, h5⟩
    · refine W.vret B.exec B.bytes (by rw [B.returns, h1]) (fun t ht hW => ⟨⟨al, ya, ?_, by rw [ht]; exact yP, yD, yg, ysc, by rw [show k_rt M = 0 by unfold k_rt; rw [h1]]; exact ⟨by decide, by decide⟩⟩, yS.F ht⟩) yS.2.2 h2 B.notSynchronized
      unfold k_rv; rw [h1]; rfl
    · refine W.zret (ty := ty) B.exec B.bytes (by rw [B.returns, h1]) h4 (fun t ht hW => ⟨⟨al, ya, ?_, by rw [ht]; exact yP, yD, yg, ysc, by rw [h6]; exact h5⟩, yS.F ht⟩) yS.2.2 h2 B.notSynchronized
      unfold k_rv; rw [h6, h1]; rfl
    · rcases hnt with hnt | hnt
      · rw [hnt] at ht1; cases ht1
      · exact absurd ht2 hnt
    · have hk : k_rt M = 2 := by unfold k_rt; rw [h1]
      refine W.lret B.exec B.bytes (by rw [B.returns, h1]) (fun t ht hW => ⟨⟨al, ya, ?_, by rw [ht]; exact yP, yD, yg, ysc, by rw [hk]; exact h5⟩, yS.F ht⟩) yS.2.2 h2 B.notSynchronized
      unfold k_rv; rw [hk, h1]; rfl
  · have hk2 := hls k v hk hv
    have := hl0.2.2 _ (k_en_args al0 as ht 0 k v hk2 hv)
    simpa using this
