/-! throwing methods by contract, and the law's helpers that catch -/
def k_gc (A : k_H) : k_H := ((k_N A, k_U A + 1, k_T A + 6), A.2)
def k_XC (A : k_H) (D : va_G) (cy : Nat → ClassId) (al0 : Int → Nat) (sc : Nat × (Nat → Int32)) (sz : Nat) (A1 : k_H) : String → State → State → Prop := fun E st t =>
  E = k_NSE ∧ (∃ al : Int → Nat, (∀ a : Int, a < k_N A → al a = al0 a) ∧ va_P D vwCl (k_ws cy al A1) t.heap ∧ va_D (va_A (k_ws cy al0 A) sz) (k_ws cy al A1) ∧ k_gh A1 ∧ k_sc A1 sc) ∧ va_F (va_A (k_ws cy al0 A) sz) st t
def k_ATh (d : Nat) (M : k_M) (as : List k_V) (A : k_H) (A1 : k_H) : Prop :=
  k_le A A1 ∧ ∀ (l : Launch), l.stackTraces = false → ∀ (D : va_G) (cy : Nat → ClassId) (al0 : Int → Nat) (sc : Nat × (Nat → Int32)) (sz : Nat),
    vx_Met l M.1 (.code M.1 M.2.1 M.2.2.1 M.2.2.2 :: k_GW) { frames := d, cells := k_U A1 - k_U A + 1, slots := k_T A1 - k_T A + 6, locals := 50 * d } (k_Pc as A D cy al0 sc sz) (fun _ _ _ _ => False) (k_XC A D cy al0 sc sz A1) (k_U A1 - k_U A + 1) (k_T A1 - k_T A + 6) (va_A (k_ws cy al0 A) sz)
theorem k_at_holds {args : Array Value} {s : State} (hts : ∀ w ∈ k_GW, w.before args s = true) (hca : ∀ q ∈ k_CA, va_Nw (.castable q.1 q.2) s) (hde : ∀ x ∈ k_DE, va_Nw (.declares x) s) : ∀ w ∈ k_atoms, w.before args s = true := by
  intro w hw
  have h1 := List.all_eq_true.mp k_atoms_good w hw
  have h2 := List.all_eq_true.mp k_atoms_in w hw
  by_cases g : goodWord w = true
  · rw [g] at h2
    exact hts w (k_gw (by simpa using h2) g)
  · have g : goodWord w = false := by cases hg : goodWord w; rfl; exact absurd hg g
    rw [g] at h1
    cases w with
    | castable a b => exact va_Nw.use rfl (hca (a, b) (by simpa using h1))
    | declares x => exact va_Nw.use rfl (hde x (by simpa using h1))
    | _ => simp at h1
section
variable {p : Program} {l : Launch} {e : Env} {R : Room} {s : State} {m : MethodId} {args : Array Value} {below : List Frame} {meth : Method} {c : Code} {H : Heap} {locs : List Loc} {cells slots : Nat}
variable {Qc : Array Value → State → Outcome → State → Prop} {XC : String → State → State → Prop} {free : Addr → Prop}
set_option maxHeartbeats 4000000 in
theorem k_throwW {cc : ByteArray} {pc : Nat} {ls : Array Slot} (hexec : p.tables.exec = Jvm.exec) (hb : c.code = cc) (hl : l.stackTraces = false) {text : String} {ik is mc ms sa : Nat} {A : Nat → Prop}
    (hown : s.vm.findClass "VanPlays" = some m.cls) (hk : (Cond.classLink "VanPlays" ik k_NSE).before args s = true) (hini : (Cond.initialized k_NSE).before args s = true) (hstr : vk_R "VanPlays" is text sa s) (hat : ∀ w ∈ k_atoms, w.before args s = true)
    (hU : vx_Zq Bundle.tN "UNASSIGNED_STACK" Bundle.steD A s s.heap) (hN : vx_Zq Bundle.tN "SUPPRESSED_SENTINEL" Bundle.listD A s s.heap) (hS : va_S A s.heap H locs) (hsize : ls.size = c.maxLocals)
    (d0 : decode cc pc = .ok (.new ik, 3)) (d3 : decode cc (pc + 3) = .ok (.dup, 1)) (d4 : decode cc (pc + 4) = .ok (.ldc is, 2)) (d6 : decode cc (pc + 6) = .ok (.invokespecial 211, 3)) (d9 : decode cc (pc + 9) = .ok (.athrow, 1))
    (hout : ∀ x ∈ c.exceptionTable.toList, covers x (pc + 9) = false)
    (hRframes : 5 < R.frames) (hRlocals : 82 ≤ R.locals) (hRcells : cells + 1 ≤ R.cells) (hRslots : slots + 6 ≤ R.slots) (hlocks : meth.locks = false)
    (hx : ∀ t : State, s.vm.Alike t.vm → H.size ≤ t.heap.size → (∀ q : Nat, q < H.size → t.heap[q]? = H[q]?) → XC k_NSE s t)
    (hf : ∀ z ∈ locs, free z.base) (hc : cells + 1 ≤ mc) (hs : slots + 6 ≤ ms) :
    W p l e R s m args below meth c H locs cells slots (vx_MQ below Qc XC args s mc ms free) (F0 m pc ls []) := by
  intro T hT X
  have htr : e.platform.stackTraces = false := (show e.platform.stackTraces = l.stackTraces by rw [X.admits.platform]).trans hl
  have Y := vx_rebase X (R' := { frames := R.frames, locals := R.locals, cells := 1, slots := 6 }) (Nat.le_refl _) (Nat.le_refl _) hRcells hRslots
  obtain ⟨s', hA⟩ : ∃ z, z = (T.setVm s.vm).setFrames (.invoking m args :: below) := ⟨_, rfl⟩
  rw [← hA] at Y
  have hvm : s'.vm = s.vm := by rw [hA]; rfl
  have hhp : s'.heap = H := by rw [hA]; exact hT
  have hW0 : s.WarmedH s'.vm := by rw [hvm]; exact State.WarmedH.refl s
  have hgood : ∀ w ∈ k_atoms, vx_ot w = true := List.all_eq_true.mp k_atoms_ot
  have hat' : ∀ w ∈ k_atoms, w.before args s' = true := fun w hw => vx_ot_at hW0 hvm.symm (hgood w hw) (hat w hw)
  have hk' : (Cond.classLink "VanPlays" ik k_NSE).before args s' = true := vx_ot_at hW0 hvm.symm rfl hk
  have hini' : (Cond.initialized k_NSE).before args s' = true := vx_ot_at hW0 hvm.symm rfl hini
  have hU' : vx_Zq Bundle.tN "UNASSIGNED_STACK" Bundle.steD A s' s'.heap := by rw [hhp]; exact vx_Zq.moved hW0.alike (hU.kept hS.2.1)
  have hN' : vx_Zq Bundle.tN "SUPPRESSED_SENTINEL" Bundle.listD A s' s'.heap := by rw [hhp]; exact vx_Zq.moved hW0.alike (hN.kept hS.2.1)
  have h : ∀ w ∈ k_own, w.before args s' = true := vx_own hat' (vx_isRefq hU'.1) (vx_isRefq hN'.1) hU'.2.word hN'.2.word
  have hown' : s'.vm.findClass "VanPlays" = some m.cls := by rw [hvm]; exact hown
  have hins : (Cond.instantiable k_NSE 6).before args s' = true := h _ (show _ ∈ Bundle.ownAtomsX "VanPlays" 211 k_NSE 13 k_rx k_nms by simp [Bundle.ownAtomsX])
  obtain ⟨vm₁, cX, kX, hfX, hkX, -, -, X₁, st1⟩ := Y.newCold hexec (own := "VanPlays") (C := k_NSE) (index := ik) (n := 6) hown' hk' hins hini'
    (g := F0 m pc ls []) rfl (by rw [hb]; exact d0) (Nat.le_refl _) (Nat.le_refl _)
  generalize hT1 : (T.setVm vm₁).pushCell { cls := cX, slots := kX.instanceTypes.map defaultValue, vm := .none } = T1 at X₁ st1
  have hcat : (Value.ref T.heap.size).category = 1 := rfl
  have hcellA : T1.heap[T.heap.size]? = some (freshCell cX kX) := by rw [← hT1]; exact State.heap_pushCell_size _ _
  have d3' : decode c.code (pc + 3) = .ok (.dup, 1) := by rw [hb]; exact d3
  have d4' : decode c.code (pc + 4) = .ok (.ldc is, 2) := by rw [hb]; exact d4
  have hstr' : vk_R "VanPlays" is text sa s' := vk_R.warm hW0 hstr
  obtain ⟨U, hsteps, hrun, hend, hW, hsame, ce, hce, hcv, hcc⟩ := k_ctorThrow X₁ hexec htr hown' h (fun x hx => nomatch hx) hfX hkX hcellA (by rw [hhp, hT]; exact Nat.le_refl _) (msg := .ref sa) rfl
    (g := { method := m, pc := pc + 6, locals := ls, stack := [.ref sa, .ref T.heap.size, .ref T.heap.size], locked := none }) rfl hsize rfl rfl (rest := []) rfl
    (by rw [hb]; exact d6) (by rw [hb]; exact d9) hout hRframes (by show 2 * 0 + (1 + 0) + (13 * (2 + 1) + 42) ≤ R.locals; omega) hlocks
  obtain ⟨f1, f2⟩ := vx_frame hsame
  rw [hhp] at f1 f2
  have hWs : s.WarmedH U.vm := State.WarmedH.trans hW0 hW
  have hcl : s.vm.findClass k_NSE = some ce.cls := by rw [hvm] at hcc; exact hcc
  have hall : s.sameButNew ({ U with vm := s.vm } : State) locs mc ms := by
    subst hA
    obtain ⟨e1, e2⟩ := hsame
    rw [State.setFrames_setFrames] at e1
    have h2 : (T.setVm s.vm).sameButNew ({ U with vm := s.vm } : State) [] (0 + 1) (0 + 6) := ⟨e1, e2⟩
    have h3 := X.same.trans h2
    rw [List.append_nil] at h3
    exact h3.mono hc hs
  refine ⟨U, ?_, .threw T.heap.size, hrun, hend, Or.inr ⟨T.heap.size, rfl, k_NSE, ce, locs, hx U hWs.alike f1 (fun q hq => f2 q hq (fun z hz => nomatch hz)), hce, hcv, hcl, hWs, hall, hf⟩⟩
  refine st1 _ ?_
  show Steps p.tables e below (T1.setTop { method := m, pc := pc + 3, locals := ls, stack := [.ref T.heap.size], locked := none }) _
  jvm_step X₁.here [X₁.here.top, hexec, d3', Value.category]
  exact X₁.ldcString hexec (own := "VanPlays") (text := text) (index := is) (a := sa) hown' hstr'.1 hstr'.2
    (g := { method := m, pc := pc + 4, locals := ls, stack := [.ref T.heap.size, .ref T.heap.size], locked := none }) rfl d4' _ hsteps
end
