section TN1
/-- the one exception class here whose constructor's link has another place in its pool -/
abbrev tn_C : String := "java/util/NoSuchElementException"
abbrev tn_R : String := "java/lang/RuntimeException"
def tn_b : ByteArray := ⟨#[0x2a, 0x2b, 0xb7, 0x00, 0x0d, 0xb1]⟩
theorem tn_b0 : decode tn_b 0 = .ok (.aload_n 0, 1) := by decide +kernel
theorem tn_b1 : decode tn_b 1 = .ok (.aload_n 1, 1) := by decide +kernel
theorem tn_b2 : decode tn_b 2 = .ok (.invokespecial 13, 3) := by decide +kernel
theorem tn_b5 : decode tn_b 5 = .ok (.return_, 1) := by decide +kernel
def tn_at (own : String) (ic : Nat) : List Cond :=
  Bundle.throwableAtoms ++ (Bundle.throwableSAtoms ++ (Bundle.passSAtoms tn_C tn_R 13 tn_b ++ (Bundle.chainSAtoms tn_R ["java/lang/Exception"] ++
  [.methodLink own ic (Bundle.initS tn_C), .instantiable tn_C 6, .castable tn_C tn_C, .selects tn_C Bundle.tFill0 Bundle.tFill0, .selects tn_C Bundle.tFill Bundle.tFill,
   .lays tn_C Bundle.tN "cause" "Ljava/lang/Throwable;", .lays tn_C Bundle.tN "stackTrace" Bundle.steD, .lays tn_C Bundle.tN "suppressedExceptions" Bundle.listD, .lays tn_C Bundle.tN "detailMessage" "Ljava/lang/String;",
   .isRef (.static Bundle.tN "UNASSIGNED_STACK" Bundle.steD), .isRef (.static Bundle.tN "SUPPRESSED_SENTINEL" Bundle.listD),
   .fieldLink Bundle.tN 198 Bundle.tN "backtrace" "Ljava/lang/Object;", .lays Bundle.tN Bundle.tN "backtrace" "Ljava/lang/Object;", .lays tn_C Bundle.tN "backtrace" "Ljava/lang/Object;"])))
theorem tn_m1 {own : String} {ic : Nat} {w : Cond} (h : w ∈ Bundle.throwableAtoms) : w ∈ tn_at own ic := List.mem_append_left _ h
theorem tn_m2 {own : String} {ic : Nat} {w : Cond} (h : w ∈ Bundle.throwableSAtoms) : w ∈ tn_at own ic := List.mem_append_right _ (List.mem_append_left _ h)
theorem tn_m3 {own : String} {ic : Nat} {w : Cond} (h : w ∈ Bundle.passSAtoms tn_C tn_R 13 tn_b) : w ∈ tn_at own ic := List.mem_append_right _ (List.mem_append_right _ (List.mem_append_left _ h))
theorem tn_m4 {own : String} {ic : Nat} {w : Cond} (h : w ∈ Bundle.chainSAtoms tn_R ["java/lang/Exception"]) : w ∈ tn_at own ic := List.mem_append_right _ (List.mem_append_right _ (List.mem_append_right _ (List.mem_append_left _ h)))
theorem tn_m5 {own : String} {ic k : Nat} {w : Cond} (h : ([.methodLink own ic (Bundle.initS tn_C), .instantiable tn_C 6, .castable tn_C tn_C, .selects tn_C Bundle.tFill0 Bundle.tFill0, .selects tn_C Bundle.tFill Bundle.tFill,
   .lays tn_C Bundle.tN "cause" "Ljava/lang/Throwable;", .lays tn_C Bundle.tN "stackTrace" Bundle.steD, .lays tn_C Bundle.tN "suppressedExceptions" Bundle.listD, .lays tn_C Bundle.tN "detailMessage" "Ljava/lang/String;",
   .isRef (.static Bundle.tN "UNASSIGNED_STACK" Bundle.steD), .isRef (.static Bundle.tN "SUPPRESSED_SENTINEL" Bundle.listD),
   .fieldLink Bundle.tN 198 Bundle.tN "backtrace" "Ljava/lang/Object;", .lays Bundle.tN Bundle.tN "backtrace" "Ljava/lang/Object;", .lays tn_C Bundle.tN "backtrace" "Ljava/lang/Object;"] : List Cond)[k]? = some w) : w ∈ tn_at own ic := List.mem_append_right _ (List.mem_append_right _ (List.mem_append_right _ (List.mem_append_right _ (List.mem_of_getElem? h))))
variable {p : Program} {l : Launch} {e : Env} {R : Room} {s : State} {m₀ : MethodId} {args : Array Value} {below : List Frame} {meth : Method} {c : Code} {V : State} {locs : List Loc} {cells slots : Nat}
set_option maxHeartbeats 4000000 in
theorem tn_ctor (X : Stand p l e R s m₀ args below meth c V locs cells slots) (hexec : p.tables.exec = Jvm.exec) (htr : e.platform.stackTraces = false) {own : String} {ic : Nat}
    (hown : s.vm.findClass own = some m₀.cls) (h : ∀ a ∈ tn_at own ic, a.before args s = true)
    (hlocs : ∀ x ∈ locs, ∀ cell, s.heap[x.base]? = some cell → cell.vm.isStatics = false)
    {a : Addr} {cX : ClassId} {kX : Class} (hfoundX : s.vm.findClass tn_C = some cX) (hkX : s.vm.classes[cX]? = some kX) (hcell : V.heap[a]? = some (freshCell cX kX)) (hnew : s.heap.size ≤ a)
    {msg : Value} (hmsg : msg.isRef = true)
    {g : JFrame} (hg : g.method = m₀) (hsize : g.locals.size = c.maxLocals) (hlocked : g.locked = none) (hentered : g.entered = []) {rest : List Value} (hstack : g.stack = msg :: .ref a :: .ref a :: rest)
    (hd6 : decode c.code g.pc = .ok (.invokespecial ic, 3)) (hd9 : decode c.code (g.pc + 3) = .ok (.athrow, 1)) (hout : ∀ x ∈ c.exceptionTable.toList, covers x (g.pc + 3) = false)
    (hRframes : 5 < R.frames) (hRlocals : 2 * g.monitorRoom + ((Value.ref a :: rest).map fun v => v.category).sum + 81 ≤ R.locals) (hlocks : meth.locks = false) :
    ∃ U : State, Steps p.tables e below (V.setTop g) U ∧ U.status = .running ∧ Ended U below (.threw a) ∧ s.WarmedH U.vm ∧ s.sameButNew ({ U with vm := s.vm } : State) locs cells slots ∧
      ∃ ce, U.heap[a]? = some ce ∧ ce.vm = .none ∧ s.vm.findClass tn_C = some ce.cls := by
  have hpl : e.platform.magicAccessors = ({} : Platform).magicAccessors := by rw [X.admits.platform]
  have q5 : ∀ {w : Cond} (k : Nat), ([.methodLink own ic (Bundle.initS tn_C), .instantiable tn_C 6, .castable tn_C tn_C, .selects tn_C Bundle.tFill0 Bundle.tFill0, .selects tn_C Bundle.tFill Bundle.tFill,
   .lays tn_C Bundle.tN "cause" "Ljava/lang/Throwable;", .lays tn_C Bundle.tN "stackTrace" Bundle.steD, .lays tn_C Bundle.tN "suppressedExceptions" Bundle.listD, .lays tn_C Bundle.tN "detailMessage" "Ljava/lang/String;",
   .isRef (.static Bundle.tN "UNASSIGNED_STACK" Bundle.steD), .isRef (.static Bundle.tN "SUPPRESSED_SENTINEL" Bundle.listD),
   .fieldLink Bundle.tN 198 Bundle.tN "backtrace" "Ljava/lang/Object;", .lays Bundle.tN Bundle.tN "backtrace" "Ljava/lang/Object;", .lays tn_C Bundle.tN "backtrace" "Ljava/lang/Object;"] : List Cond)[k]? = some w → w.holds args s none s [] = true := fun k hk => h _ (tn_m5 hk)
  -- the throwable's own tables, and the three constructors above it
  obtain ⟨Th, Z0, hL0, -, Yt⟩ := ThrowableC.of_atoms (args := args) (by rw [X.admits.platform]) (by rw [X.admits.platform]) hpl (fun x hx => h x (tn_m1 hx))
  obtain ⟨Zi, Mi, hLZ, hLM, hnZ⟩ := Init0T.ofS_atoms (args := args) hpl hL0 Yt (fun x hx => h x (tn_m2 hx))
  obtain ⟨P2, Ps, hlen, hP2, hPs, hm2, hsup2, hpass2⟩ := Bundle.chainS (args := args) hpl hnZ ["java/lang/Exception"] tn_R (by decide +kernel) (by decide +kernel) (fun x hx => h x (tn_m4 hx))
  obtain ⟨P1, hP1, hm1, hsup1⟩ := PassC.ofS_atoms (args := args) (s := s) hpl (X := tn_C) (Y := tn_R) (by decide +kernel) (by decide) tn_b0 tn_b1 tn_b2 tn_b5 (fun x hx => h x (tn_m3 hx))
  have hs12 : P1.sup = P2.m := Option.some.inj (hsup1.symm.trans hm2)
  have hcls : s.vm.findClass tn_C = some P1.m.cls := findClass_of_methodNamed hm1
  have hcX : cX = P1.m.cls := Option.some.inj (hfoundX.symm.trans hcls)
  subst hcX
  obtain ⟨c1, kX', hc1, hk, hord, -, -, hn6⟩ := Cond.instantiable_spec (q5 1 rfl)
  cases Option.some.inj (hc1.symm.trans hcls)
  cases Option.some.inj (hkX.symm.trans hk)
  have sel0 : selectMethod e.platform s.vm P1.m.cls Th.fill0 = .method Th.fill0 := by
    obtain ⟨c2, r2, m2, z1, z2, z3, z4, -⟩ := Cond.selects_spec (q5 3 rfl)
    cases Option.some.inj (z1.symm.trans hcls)
    cases Option.some.inj (z2.symm.trans (State.methodFound?_of_named Yt.fill0 (by decide)))
    cases Option.some.inj (z3.symm.trans Yt.fill0)
    rw [Launch.admits_selectMethod X.admits]
    exact z4
  have selF : selectMethod e.platform s.vm P1.m.cls Th.fill = .method Th.fill := by
    obtain ⟨c2, r2, m2, z1, z2, z3, z4, -⟩ := Cond.selects_spec (q5 4 rfl)
    cases Option.some.inj (z1.symm.trans hcls)
    cases Option.some.inj (z2.symm.trans (State.methodFound?_of_named Yt.fill (by decide)))
    cases Option.some.inj (z3.symm.trans Yt.fill)
    rw [Launch.admits_selectMethod X.admits]
    exact z4
  obtain ⟨cs0, hcs0, his0⟩ := Yt.statics
  obtain ⟨u0, hu0⟩ := Cond.staticRefV Yt.unassigned hL0.unassignedStatic hL0.statics hcs0 his0 (q5 9 rfl)
  obtain ⟨sen, hsen⟩ := Cond.staticRefV Yt.sentinel hL0.sentinelStatic hL0.statics hcs0 his0 (q5 10 rfl)
  obtain ⟨ci8, i8, fB, hk8, hg8, ha8, hsB, -, hnB, htB, hffB⟩ := Cond.ownField (t := .object "java/lang/Object") Yt.found hL0.cls (by decide +kernel) (q5 11 rfl) (q5 12 rfl) e.platform hpl
  obtain ⟨cellS, hcS', heS, -, hkeep⟩ := X.same.2.2.2.2.2 Th.aS cs0 hcs0
  have hcellS : V.heap[Th.aS]? = some cellS := hcS'
  have hfree : ∀ i, (⟨Th.aS, i⟩ : Loc) ∉ locs := fun i hmem => by
    have h9 := hlocs _ hmem cs0 hcs0
    rw [his0] at h9
    cases h9
  have hknownS : cellS.vm ≠ .unknown := by
    rw [heS]
    intro hu
    rw [show cs0.vm = .unknown from hu] at his0
    cases his0
  have hneS : Th.aS ≠ a := Nat.ne_of_lt (Nat.lt_of_lt_of_le (Array.getElem?_eq_some_iff.mp hcs0).1 hnew)
  obtain ⟨iM, hffM⟩ := Yt.msg
  obtain ⟨tyC, dC, hdC, hdnC⟩ := Cond.laysAt hcls hk Yt.cause (q5 5 rfl)
  obtain ⟨tyS, dS, hdS, hdnS⟩ := Cond.laysAt hcls hk Yt.stack (q5 6 rfl)
  obtain ⟨tyP, dP, hdP, hdnP⟩ := Cond.laysAt hcls hk Yt.supp (q5 7 rfl)
  obtain ⟨tyM, dM, hdM, hdnM⟩ := Cond.laysAt hcls hk hffM (q5 8 rfl)
  obtain ⟨tyB, dB, hdB, hdnB⟩ := Cond.laysAt hcls hk hffB (q5 13 rfl)
  have bC := Cond.laysApart hdB hdC hdnB hdnC (by rw [hnB, Yt.causeName]; decide)
  have bS := Cond.laysApart hdB hdS hdnB hdnS (by rw [hnB, Yt.stackName]; decide)
  have bP := Cond.laysApart hdB hdP hdnB hdnP (by rw [hnB, Yt.suppName]; decide)
  have hskip : SkipFacts Th e.platform s (fun u => u) u0 ((preparedCellV Th.toThrowableT (freshCell P1.m.cls kX) a u0 sen).withEntry V.cur) :=
    ⟨{ ci198 := ci8, i198 := i8, fBack := fB }, ⟨hk8, hg8, ha8, hsB⟩, by
      have h9 := fresh_default (c := P1.m.cls) tyB
      rw [htB] at h9
      simpa [preparedCellV, Cell.setSlot, Cell.withEntry, Array.getElem?_setIfInBounds, bC, bS, bP, bC.symm, bS.symm, bP.symm, defaultValue] using h9, fun _ _ => rfl⟩
  obtain ⟨tm, methC, cdC, kC, vm₁, hnC, -, -, -, -, -, -, -, hW₁, st1⟩ := Steps.initColdS (tb := p.tables) (e := e) (below := below) (s := s) (U := V) X.here hexec X.warmed hpl hown (t := Bundle.initS tn_C) rfl rfl (by decide)
    (q5 0 rfl) (h (.instanceMethod (Bundle.initS tn_C)) (tn_m3 (List.mem_of_getElem? (i := 0) rfl))) (bytes := tn_b) (maxL := 2) (h (.code (Bundle.initS tn_C) tn_b 2 none) (tn_m3 (List.mem_of_getElem? (i := 1) rfl)))
    (f := g) hg (a := a) (msg := msg) (rest := .ref a :: rest) hstack hd6
  cases Option.some.inj (hnC.symm.trans hm1)
  have X₁ := X.noted hW₁
  obtain ⟨vm₂, X₂, st2⟩ := X₁.ctorMessageOffV hexec (g := { g with stack := .ref a :: rest }) hg hsize Th hL0 Zi hLZ Mi hLM (P1 :: P2 :: Ps)
    (fun P hP => by
      rcases List.mem_cons.mp hP with rfl | hP
      · exact hP1
      · rcases List.mem_cons.mp hP with rfl | hP
        · exact hP2
        · exact hPs P hP) ⟨hs12, hsup2, hpass2⟩ (u0 := u0) (sen := sen) (self := a) hmsg (cell := freshCell P1.m.cls kX) (cellS := cellS)
    hcell (fun _ => by simp) (by simp) rfl rfl sel0 selF hcellS hneS hknownS (by rw [hkeep _ (hfree _)]; exact hu0) (by rw [hkeep _ (hfree _)]; exact hsen)
    (Takes.of_laid hk hord tyC (by rw [Yt.causeType]; rfl)) (Takes.of_laid hk hord tyS (by rw [Yt.stackType]; exact fits_refV_array _ u0)) (Takes.of_laid hk hord tyP (by rw [Yt.suppType]; exact fits_refV_object _ sen))
    (Takes.of_laid hk hord tyM (by rw [Yt.msgType]; exact fits_refV_object _ ⟨msg, hmsg⟩)) Yt.objLocals hskip htr [] hd6
    (by simp only [List.length_cons, hlen]; omega) (by simp only [List.length_cons, hlen]; exact hRlocals)
  have X₃ := Stand.forget X₂ (fun q hq => by
    simp only [List.mem_cons, List.not_mem_nil, or_false] at hq
    rcases hq with rfl | rfl | rfl | rfl | rfl <;> exact hnew)
  obtain ⟨hwalk, hrun, hended, hWU, hsame⟩ := X₃.athrowLeaves hexec (g := { g with stack := .ref a :: rest, pc := g.pc + 3 }) hg hlocked hentered hout (a := a) (rest := rest) rfl hd9
  have hlt : a < ((V.setVm vm₁).setVm vm₂).heap.size := (Array.getElem?_eq_some_iff.mp hcell).1
  have hU := heapAt_setCell_self (s := (V.setVm vm₁).setVm vm₂) (plainBareV Th.toThrowableT (freshCell P1.m.cls kX) a u0 sen msg) hlt
  refine ⟨_, st1 _ fun acts => ?_, hrun, hended, hWU, hsame, _, hU, rfl, hcls⟩
  rw [doInvoke_state]
  exact st2 _ hwalk

end TN1
section TN2
variable {p : Program} {l : Launch} {e : Env} {R : Room} {s : State} {m : MethodId} {args : Array Value} {below : List Frame} {meth : Method} {c : Code} {H : Heap} {locs : List Loc} {cells slots : Nat} {free : Addr → Prop} {ls : Array Slot} {rest : List Value}
variable {Qc : Array Value → State → Outcome → State → Prop} {XC : String → State → State → Prop}
set_option maxHeartbeats 4000000 in
theorem tn_throw {cc : ByteArray} {pc : Nat} (hexec : p.tables.exec = Jvm.exec) (hb : c.code = cc) (hl : l.stackTraces = false) {own text : String} {ik is ic mc ms sa : Nat} {A : Nat → Prop}
    (hown : s.vm.findClass own = some m.cls)
    (hk : (Cond.classLink own ik tn_C).before args s = true) (hini : (Cond.initialized tn_C).before args s = true) (hstr : vk_R own is text sa s) (hat : ∀ w ∈ ((tn_at own ic).filter vx_no), w.before args s = true)
    (hgood : ∀ w ∈ Cond.classLink own ik tn_C :: Cond.initialized tn_C :: ((tn_at own ic).filter vx_no), vx_ot w = true)
    (hU : vx_Zq Bundle.tN "UNASSIGNED_STACK" Bundle.steD A s s.heap) (hN : vx_Zq Bundle.tN "SUPPRESSED_SENTINEL" Bundle.listD A s s.heap) (hS : va_S A s.heap H locs) (hsize : ls.size = c.maxLocals)
    (d0 : decode cc pc = .ok (.new ik, 3)) (d3 : decode cc (pc + 3) = .ok (.dup, 1)) (d4 : decode cc (pc + 4) = .ok (.ldc is, 2)) (d6 : decode cc (pc + 6) = .ok (.invokespecial ic, 3)) (d9 : decode cc (pc + 9) = .ok (.athrow, 1))
    (hout : ∀ x ∈ c.exceptionTable.toList, covers x (pc + 9) = false)
    (hRframes : 5 < R.frames) (hRlocals : (rest.map fun v => v.category).sum + 82 ≤ R.locals) (hRcells : cells + 1 ≤ R.cells) (hRslots : slots + 6 ≤ R.slots) (hlocks : meth.locks = false)
    (hx : ∀ t : State, s.vm.Alike t.vm → H.size ≤ t.heap.size → (∀ q : Nat, q < H.size → t.heap[q]? = H[q]?) → XC tn_C s t)
    (hf : ∀ z ∈ locs, free z.base) (hc : cells + 1 ≤ mc) (hs : slots + 6 ≤ ms) :
    W p l e R s m args below meth c H locs cells slots (vx_MQ below Qc XC args s mc ms free) (F0 m pc ls rest) := by
  intro T hT X
  have htr : e.platform.stackTraces = false := (show e.platform.stackTraces = l.stackTraces by rw [X.admits.platform]).trans hl
  have Y := vx_rebase X (R' := { frames := R.frames, locals := R.locals, cells := 1, slots := 6 }) (Nat.le_refl _) (Nat.le_refl _) hRcells hRslots
  obtain ⟨s', hA⟩ : ∃ z, z = (T.setVm s.vm).setFrames (.invoking m args :: below) := ⟨_, rfl⟩
  rw [← hA] at Y
  have hvm : s'.vm = s.vm := by rw [hA]; rfl
  have hhp : s'.heap = H := by rw [hA]; exact hT
  have hW0 : s.WarmedH s'.vm := by rw [hvm]; exact State.WarmedH.refl s
  have hat' : ∀ w ∈ ((tn_at own ic).filter vx_no), w.before args s' = true := fun w hw => vx_ot_at hW0 hvm.symm (hgood w (List.mem_cons_of_mem _ (List.mem_cons_of_mem _ hw))) (hat w hw)
  have hk' : (Cond.classLink own ik tn_C).before args s' = true := vx_ot_at hW0 hvm.symm (hgood _ List.mem_cons_self) hk
  have hini' : (Cond.initialized tn_C).before args s' = true := vx_ot_at hW0 hvm.symm (hgood _ (List.mem_cons_of_mem _ List.mem_cons_self)) hini
  have hU' : vx_Zq Bundle.tN "UNASSIGNED_STACK" Bundle.steD A s' s'.heap := by rw [hhp]; exact vx_Zq.moved hW0.alike (hU.kept hS.2.1)
  have hN' : vx_Zq Bundle.tN "SUPPRESSED_SENTINEL" Bundle.listD A s' s'.heap := by rw [hhp]; exact vx_Zq.moved hW0.alike (hN.kept hS.2.1)
  have h : ∀ w ∈ tn_at own ic, w.before args s' = true := vx_own hat' (vx_isRefq hU'.1) (vx_isRefq hN'.1) hU'.2.word hN'.2.word
  have hown' : s'.vm.findClass own = some m.cls := by rw [hvm]; exact hown
  have hins : (Cond.instantiable tn_C 6).before args s' = true := h _ (tn_m5 (k := 1) rfl)
  obtain ⟨vm₁, cX, kX, hfX, hkX, -, -, X₁, st1⟩ := Y.newCold hexec (own := own) (C := tn_C) (index := ik) (n := 6) hown' hk' hins hini'
    (g := F0 m pc ls rest) rfl (by rw [hb]; exact d0) (Nat.le_refl _) (Nat.le_refl _)
  generalize hT1 : (T.setVm vm₁).pushCell { cls := cX, slots := kX.instanceTypes.map defaultValue, vm := .none } = T1 at X₁ st1
  have hcat : (Value.ref T.heap.size).category = 1 := rfl
  have hcellA : T1.heap[T.heap.size]? = some (freshCell cX kX) := by rw [← hT1]; exact State.heap_pushCell_size _ _
  have d3' : decode c.code (pc + 3) = .ok (.dup, 1) := by rw [hb]; exact d3
  have d4' : decode c.code (pc + 4) = .ok (.ldc is, 2) := by rw [hb]; exact d4
  have hstr' : vk_R own is text sa s' := vk_R.warm hW0 hstr
  obtain ⟨U, hsteps, hrun, hend, hW, hsame, ce, hce, hOv, hOc⟩ := tn_ctor X₁ hexec htr (own := own) (ic := ic) hown' h (fun x hx => nomatch hx) hfX hkX hcellA (by rw [hhp, hT]; exact Nat.le_refl _) (msg := .ref sa) rfl
    (g := { method := m, pc := pc + 6, locals := ls, stack := .ref sa :: .ref T.heap.size :: .ref T.heap.size :: rest, locked := none }) rfl hsize rfl rfl (rest := rest) rfl
    (by rw [hb]; exact d6) (by rw [hb]; exact d9) hout hRframes (by simp only [List.map_cons, List.sum_cons, hcat]; omega) hlocks
  obtain ⟨f1, f2⟩ := vx_frame hsame
  rw [hhp] at f1 f2
  have hWs : s.WarmedH U.vm := State.WarmedH.trans hW0 hW
  have hcl : s.vm.findClass tn_C = some ce.cls := by
    have h9 := hOc
    rw [hvm] at h9
    exact h9
  have hall : s.sameButNew ({ U with vm := s.vm } : State) locs mc ms := by
    subst hA
    obtain ⟨e1, e2⟩ := hsame
    rw [State.setFrames_setFrames] at e1
    have h2 : (T.setVm s.vm).sameButNew ({ U with vm := s.vm } : State) [] (0 + 1) (0 + 6) := ⟨e1, e2⟩
    have h3 := X.same.trans h2
    rw [List.append_nil] at h3
    exact h3.mono hc hs
  refine ⟨U, ?_, .threw T.heap.size, hrun, hend, Or.inr ⟨T.heap.size, rfl, tn_C, ce, locs, hx U hWs.alike f1 (fun q hq => f2 q hq (fun z hz => nomatch hz)), hce, hOv, hcl, hWs, hall, hf⟩⟩
  refine st1 _ ?_
  show Steps p.tables e below (T1.setTop { method := m, pc := pc + 3, locals := ls, stack := .ref T.heap.size :: rest, locked := none }) _
  jvm_step X₁.here [X₁.here.top, hexec, d3', Value.category]
  exact X₁.ldcString hexec (own := own) (text := text) (index := is) (a := sa) hown' hstr'.1 hstr'.2
    (g := { method := m, pc := pc + 4, locals := ls, stack := .ref T.heap.size :: .ref T.heap.size :: rest, locked := none }) rfl d4' _ hsteps
theorem tn_a : ∀ w ∈ ((tn_at "BigDesk" 181).filter vx_no), w ∈ lw_tbl ∧ (goodWord w || zx_kind w) = true := by decide +kernel
theorem tn_g : ∀ w ∈ Cond.classLink "BigDesk" 177 tn_C :: Cond.initialized tn_C :: ((tn_at "BigDesk" 181).filter vx_no), vx_ot w = true := by decide +kernel
variable {cc : ByteArray} {pc : Nat} {G : zG} {h : ah_H}
theorem hx_throwN {Ex : String → ah_H → Prop} {Qc : Array Value → State → Outcome → State → Prop} {Ts : List Cond} (hexec : p.tables.exec = Jvm.exec) (hb : c.code = cc) (hl : l.stackTraces = false) {text : String} {is mc ms : Nat} (hown : s.vm.findClass "BigDesk" = some m.cls) (hts : ∀ w ∈ Ts, w.before args s = true) (hT : ∀ w ∈ zx_T, w ∈ Ts) (hX : zx_X G s) (hk : Cond.classLink "BigDesk" 177 tn_C ∈ zx_T) (hini : Cond.initialized tn_C ∈ zx_T) (hstr : (is, text) ∈ zx_str) (hW : ah_W G s.heap h H locs) (hsize : ls.size = c.maxLocals) (d0 : decode cc pc = .ok (.new 177, 3)) (d3 : decode cc (pc + 3) = .ok (.dup, 1)) (d4 : decode cc (pc + 4) = .ok (.ldc is, 2)) (d6 : decode cc (pc + 6) = .ok (.invokespecial 181, 3)) (d9 : decode cc (pc + 9) = .ok (.athrow, 1)) (hout : ∀ x ∈ c.exceptionTable.toList, False) (hRframes : 5 < R.frames) (hRlocals : (rest.map fun v => v.category).sum + 82 ≤ R.locals) (hRcells : cells + 1 ≤ R.cells) (hRslots : slots + 6 ≤ R.slots) (hlk : meth.locks = false) (hE : Ex tn_C h) (hc : cells + 1 ≤ mc) (hs : slots + 6 ≤ ms) : W p l e R s m args below meth c H locs cells slots (vx_MQ below Qc (ah_X G Ex) args s mc ms (fun q => G.2.2 ≤ q)) (F0 m pc ls rest) := by
  obtain ⟨sa, hsa⟩ := hX.2.1 _ hstr
  exact tn_throw hexec hb hl hown (hts _ (hT _ hk)) (hts _ (hT _ hini)) hsa (fun w hw => zx_use hts hT hX (tn_a w hw).1 (tn_a w hw).2) tn_g hX.2.2.2.1 hX.2.2.2.2 hW.2.2 hsize d0 d3 d4 d6 d9 (fun x hx => (hout x hx).elim) hRframes hRlocals hRcells hRslots hlk (fun t _ h1 h2 => ⟨h, hE, hW.2.1.kept h2, Nat.le_trans hW.2.2.1 h1, fun q h3 h4 => (h2 q (Nat.lt_of_lt_of_le h3 hW.2.2.1)).trans (hW.2.2.2.1 q h3 h4)⟩) hW.2.2.2.2 hc hs
end TN2
