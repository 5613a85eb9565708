section
-- ===== PART A: goes FIRST, ahead of the names: the tables' words, and 'selects' of the private methods out of them =====
/-- a private method of a class that the tables say can be made, by its rows of tables_1 -/
def lw_okq (q : MethodName × Nat) : Prop := (q.1.cls ≠ "java/lang/invoke/MethodHandle" ∧ q.1.cls ≠ "java/lang/invoke/VarHandle") ∧ Cond.instantiable q.1.cls q.2 ∈ tables_1 ∧ Cond.privateMethod q.1 ∈ tables_1 ∧ Cond.instanceMethod q.1 ∈ tables_1
theorem lw_p0 : lw_okq (⟨"BigDesk", "register", "(I)LBigDesk$Whole;"⟩, 9) := ⟨⟨by decide +kernel, by decide +kernel⟩, List.mem_of_getElem? (i := 19) (by decide +kernel), List.mem_of_getElem? (i := 142) (by decide +kernel), List.mem_of_getElem? (i := 143) (by decide +kernel)⟩
theorem lw_p1 : lw_okq (⟨"java/lang/Throwable", "fillInStackTrace", "(I)Ljava/lang/Throwable;"⟩, 6) := ⟨⟨by decide +kernel, by decide +kernel⟩, List.mem_of_getElem? (i := 185) (by decide +kernel), List.mem_of_getElem? (i := 183) (by decide +kernel), List.mem_of_getElem? (i := 184) (by decide +kernel)⟩
theorem lw_p2 : lw_okq (⟨"BigDesk", "keepMade", "(LBigDesk$Whole;)V"⟩, 9) := ⟨⟨by decide +kernel, by decide +kernel⟩, List.mem_of_getElem? (i := 19) (by decide +kernel), List.mem_of_getElem? (i := 270) (by decide +kernel), List.mem_of_getElem? (i := 271) (by decide +kernel)⟩
theorem lw_p3 : lw_okq (⟨"BigDesk", "keepProduct", "(LBigDesk$Whole;LBigDesk$Whole;LBigDesk$Whole;)V"⟩, 9) := ⟨⟨by decide +kernel, by decide +kernel⟩, List.mem_of_getElem? (i := 19) (by decide +kernel), List.mem_of_getElem? (i := 311) (by decide +kernel), List.mem_of_getElem? (i := 312) (by decide +kernel)⟩
theorem lw_p4 : lw_okq (⟨"BigDesk$Division", "nextLimb", "(I)J"⟩, 3) := ⟨⟨by decide +kernel, by decide +kernel⟩, List.mem_of_getElem? (i := 57) (by decide +kernel), List.mem_of_getElem? (i := 415) (by decide +kernel), List.mem_of_getElem? (i := 416) (by decide +kernel)⟩
theorem lw_p5 : lw_okq (⟨"BigDesk$Division", "guessLimb", "(I)J"⟩, 3) := ⟨⟨by decide +kernel, by decide +kernel⟩, List.mem_of_getElem? (i := 57) (by decide +kernel), List.mem_of_getElem? (i := 419) (by decide +kernel), List.mem_of_getElem? (i := 420) (by decide +kernel)⟩
theorem lw_p6 : lw_okq (⟨"BigDesk$Division", "takeAway", "(IJ)Z"⟩, 3) := ⟨⟨by decide +kernel, by decide +kernel⟩, List.mem_of_getElem? (i := 57) (by decide +kernel), List.mem_of_getElem? (i := 429) (by decide +kernel), List.mem_of_getElem? (i := 430) (by decide +kernel)⟩
theorem lw_p7 : lw_okq (⟨"BigDesk$Division", "putBack", "(I)V"⟩, 3) := ⟨⟨by decide +kernel, by decide +kernel⟩, List.mem_of_getElem? (i := 57) (by decide +kernel), List.mem_of_getElem? (i := 433) (by decide +kernel), List.mem_of_getElem? (i := 434) (by decide +kernel)⟩
theorem lw_p8 : lw_okq (⟨"BigDesk$CommonDivisor", "exchange", "()V"⟩, 6) := ⟨⟨by decide +kernel, by decide +kernel⟩, List.mem_of_getElem? (i := 78) (by decide +kernel), List.mem_of_getElem? (i := 456) (by decide +kernel), List.mem_of_getElem? (i := 457) (by decide +kernel)⟩
theorem lw_p9 : lw_okq (⟨"BigDesk$CommonDivisor", "foretell", "()Z"⟩, 6) := ⟨⟨by decide +kernel, by decide +kernel⟩, List.mem_of_getElem? (i := 78) (by decide +kernel), List.mem_of_getElem? (i := 461) (by decide +kernel), List.mem_of_getElem? (i := 462) (by decide +kernel)⟩
theorem lw_p10 : lw_okq (⟨"BigDesk$CommonDivisor", "combine", "()V"⟩, 6) := ⟨⟨by decide +kernel, by decide +kernel⟩, List.mem_of_getElem? (i := 78) (by decide +kernel), List.mem_of_getElem? (i := 475) (by decide +kernel), List.mem_of_getElem? (i := 476) (by decide +kernel)⟩
theorem lw_p11 : lw_okq (⟨"BigDesk$Whole", "lowestLong", "()J"⟩, 3) := ⟨⟨by decide +kernel, by decide +kernel⟩, List.mem_of_getElem? (i := 28) (by decide +kernel), List.mem_of_getElem? (i := 509) (by decide +kernel), List.mem_of_getElem? (i := 510) (by decide +kernel)⟩
theorem lw_p12 : lw_okq (⟨"BigDeskModel", "setRow", "(IJ)V"⟩, 8) := ⟨⟨by decide +kernel, by decide +kernel⟩, List.mem_of_getElem? (i := 628) (by decide +kernel), List.mem_of_getElem? (i := 634) (by decide +kernel), List.mem_of_getElem? (i := 635) (by decide +kernel)⟩
theorem lw_p13 : lw_okq (⟨"BigDeskModel", "scale", "(II)V"⟩, 8) := ⟨⟨by decide +kernel, by decide +kernel⟩, List.mem_of_getElem? (i := 628) (by decide +kernel), List.mem_of_getElem? (i := 639) (by decide +kernel), List.mem_of_getElem? (i := 640) (by decide +kernel)⟩
theorem lw_p14 : lw_okq (⟨"BigDeskModel", "at", "(II)I"⟩, 8) := ⟨⟨by decide +kernel, by decide +kernel⟩, List.mem_of_getElem? (i := 628) (by decide +kernel), List.mem_of_getElem? (i := 643) (by decide +kernel), List.mem_of_getElem? (i := 644) (by decide +kernel)⟩
theorem lw_p15 : lw_okq (⟨"BigDeskModel", "fails", "(ZI)Z"⟩, 8) := ⟨⟨by decide +kernel, by decide +kernel⟩, List.mem_of_getElem? (i := 628) (by decide +kernel), List.mem_of_getElem? (i := 684) (by decide +kernel), List.mem_of_getElem? (i := 685) (by decide +kernel)⟩
def lw_privs_1 : List (MethodName × Nat) := [(⟨"BigDesk", "register", "(I)LBigDesk$Whole;"⟩, 9), (⟨"java/lang/Throwable", "fillInStackTrace", "(I)Ljava/lang/Throwable;"⟩, 6), (⟨"BigDesk", "keepMade", "(LBigDesk$Whole;)V"⟩, 9), (⟨"BigDesk", "keepProduct", "(LBigDesk$Whole;LBigDesk$Whole;LBigDesk$Whole;)V"⟩, 9), (⟨"BigDesk$Division", "nextLimb", "(I)J"⟩, 3), (⟨"BigDesk$Division", "guessLimb", "(I)J"⟩, 3), (⟨"BigDesk$Division", "takeAway", "(IJ)Z"⟩, 3), (⟨"BigDesk$Division", "putBack", "(I)V"⟩, 3), (⟨"BigDesk$CommonDivisor", "exchange", "()V"⟩, 6), (⟨"BigDesk$CommonDivisor", "foretell", "()Z"⟩, 6), (⟨"BigDesk$CommonDivisor", "combine", "()V"⟩, 6), (⟨"BigDesk$Whole", "lowestLong", "()J"⟩, 3), (⟨"BigDeskModel", "setRow", "(IJ)V"⟩, 8), (⟨"BigDeskModel", "scale", "(II)V"⟩, 8), (⟨"BigDeskModel", "at", "(II)I"⟩, 8), (⟨"BigDeskModel", "fails", "(ZI)Z"⟩, 8)]
theorem lw_r1 : ∀ q ∈ lw_privs_1, lw_okq q := List.forall_mem_cons.mpr ⟨lw_p0, List.forall_mem_cons.mpr ⟨lw_p1, List.forall_mem_cons.mpr ⟨lw_p2, List.forall_mem_cons.mpr ⟨lw_p3, List.forall_mem_cons.mpr ⟨lw_p4, List.forall_mem_cons.mpr ⟨lw_p5, List.forall_mem_cons.mpr ⟨lw_p6, List.forall_mem_cons.mpr ⟨lw_p7, List.forall_mem_cons.mpr ⟨lw_p8, List.forall_mem_cons.mpr ⟨lw_p9, List.forall_mem_cons.mpr ⟨lw_p10, List.forall_mem_cons.mpr ⟨lw_p11, List.forall_mem_cons.mpr ⟨lw_p12, List.forall_mem_cons.mpr ⟨lw_p13, List.forall_mem_cons.mpr ⟨lw_p14, List.forall_mem_cons.mpr ⟨lw_p15, fun _ h => absurd h List.not_mem_nil⟩⟩⟩⟩⟩⟩⟩⟩⟩⟩⟩⟩⟩⟩⟩⟩
theorem lw_p16 : lw_okq (⟨"BigDeskModel", "copyRow", "(II)V"⟩, 8) := ⟨⟨by decide +kernel, by decide +kernel⟩, List.mem_of_getElem? (i := 628) (by decide +kernel), List.mem_of_getElem? (i := 692) (by decide +kernel), List.mem_of_getElem? (i := 693) (by decide +kernel)⟩
theorem lw_p17 : lw_okq (⟨"BigDeskModel", "sum", "(III)V"⟩, 8) := ⟨⟨by decide +kernel, by decide +kernel⟩, List.mem_of_getElem? (i := 628) (by decide +kernel), List.mem_of_getElem? (i := 700) (by decide +kernel), List.mem_of_getElem? (i := 701) (by decide +kernel)⟩
theorem lw_p18 : lw_okq (⟨"BigDeskModel", "joins", "(IIII)V"⟩, 8) := ⟨⟨by decide +kernel, by decide +kernel⟩, List.mem_of_getElem? (i := 628) (by decide +kernel), List.mem_of_getElem? (i := 704) (by decide +kernel), List.mem_of_getElem? (i := 705) (by decide +kernel)⟩
theorem lw_p19 : lw_okq (⟨"BigDeskModel", "trim", "(II)V"⟩, 8) := ⟨⟨by decide +kernel, by decide +kernel⟩, List.mem_of_getElem? (i := 628) (by decide +kernel), List.mem_of_getElem? (i := 708) (by decide +kernel), List.mem_of_getElem? (i := 709) (by decide +kernel)⟩
theorem lw_p20 : lw_okq (⟨"BigDeskModel", "against", "(II)I"⟩, 8) := ⟨⟨by decide +kernel, by decide +kernel⟩, List.mem_of_getElem? (i := 628) (by decide +kernel), List.mem_of_getElem? (i := 712) (by decide +kernel), List.mem_of_getElem? (i := 713) (by decide +kernel)⟩
theorem lw_p21 : lw_okq (⟨"BigDeskModel", "becomes", "(I)Z"⟩, 8) := ⟨⟨by decide +kernel, by decide +kernel⟩, List.mem_of_getElem? (i := 628) (by decide +kernel), List.mem_of_getElem? (i := 716) (by decide +kernel), List.mem_of_getElem? (i := 717) (by decide +kernel)⟩
theorem lw_p22 : lw_okq (⟨"BigDeskModel", "product", "(II)V"⟩, 8) := ⟨⟨by decide +kernel, by decide +kernel⟩, List.mem_of_getElem? (i := 628) (by decide +kernel), List.mem_of_getElem? (i := 728) (by decide +kernel), List.mem_of_getElem? (i := 729) (by decide +kernel)⟩
theorem lw_p23 : lw_okq (⟨"BigDeskModel", "parts", "(II)I"⟩, 8) := ⟨⟨by decide +kernel, by decide +kernel⟩, List.mem_of_getElem? (i := 628) (by decide +kernel), List.mem_of_getElem? (i := 748) (by decide +kernel), List.mem_of_getElem? (i := 749) (by decide +kernel)⟩
theorem lw_p24 : lw_okq (⟨"BigDeskModel", "quotient", "(II)V"⟩, 8) := ⟨⟨by decide +kernel, by decide +kernel⟩, List.mem_of_getElem? (i := 628) (by decide +kernel), List.mem_of_getElem? (i := 757) (by decide +kernel), List.mem_of_getElem? (i := 758) (by decide +kernel)⟩
theorem lw_p25 : lw_okq (⟨"BigDeskModel", "guess", "(I)I"⟩, 8) := ⟨⟨by decide +kernel, by decide +kernel⟩, List.mem_of_getElem? (i := 628) (by decide +kernel), List.mem_of_getElem? (i := 761) (by decide +kernel), List.mem_of_getElem? (i := 762) (by decide +kernel)⟩
theorem lw_p26 : lw_okq (⟨"BigDeskModel", "lessens", "(II)V"⟩, 8) := ⟨⟨by decide +kernel, by decide +kernel⟩, List.mem_of_getElem? (i := 628) (by decide +kernel), List.mem_of_getElem? (i := 765) (by decide +kernel), List.mem_of_getElem? (i := 766) (by decide +kernel)⟩
theorem lw_p27 : lw_okq (⟨"BigDeskModel", "isLong", "(I)Z"⟩, 8) := ⟨⟨by decide +kernel, by decide +kernel⟩, List.mem_of_getElem? (i := 628) (by decide +kernel), List.mem_of_getElem? (i := 792) (by decide +kernel), List.mem_of_getElem? (i := 793) (by decide +kernel)⟩
theorem lw_p28 : lw_okq (⟨"BigDeskModel", "longOf", "(I)J"⟩, 8) := ⟨⟨by decide +kernel, by decide +kernel⟩, List.mem_of_getElem? (i := 628) (by decide +kernel), List.mem_of_getElem? (i := 797) (by decide +kernel), List.mem_of_getElem? (i := 798) (by decide +kernel)⟩
theorem lw_p29 : lw_okq (⟨"BigDeskModel", "bits", "(I)I"⟩, 8) := ⟨⟨by decide +kernel, by decide +kernel⟩, List.mem_of_getElem? (i := 628) (by decide +kernel), List.mem_of_getElem? (i := 813) (by decide +kernel), List.mem_of_getElem? (i := 814) (by decide +kernel)⟩
theorem lw_p30 : lw_okq (⟨"BigDeskModel", "reads", "()Z"⟩, 8) := ⟨⟨by decide +kernel, by decide +kernel⟩, List.mem_of_getElem? (i := 628) (by decide +kernel), List.mem_of_getElem? (i := 826) (by decide +kernel), List.mem_of_getElem? (i := 827) (by decide +kernel)⟩
theorem lw_p31 : lw_okq (⟨"BigDeskModel", "say", "(I)V"⟩, 8) := ⟨⟨by decide +kernel, by decide +kernel⟩, List.mem_of_getElem? (i := 628) (by decide +kernel), List.mem_of_getElem? (i := 834) (by decide +kernel), List.mem_of_getElem? (i := 835) (by decide +kernel)⟩
def lw_privs_2 : List (MethodName × Nat) := [(⟨"BigDeskModel", "copyRow", "(II)V"⟩, 8), (⟨"BigDeskModel", "sum", "(III)V"⟩, 8), (⟨"BigDeskModel", "joins", "(IIII)V"⟩, 8), (⟨"BigDeskModel", "trim", "(II)V"⟩, 8), (⟨"BigDeskModel", "against", "(II)I"⟩, 8), (⟨"BigDeskModel", "becomes", "(I)Z"⟩, 8), (⟨"BigDeskModel", "product", "(II)V"⟩, 8), (⟨"BigDeskModel", "parts", "(II)I"⟩, 8), (⟨"BigDeskModel", "quotient", "(II)V"⟩, 8), (⟨"BigDeskModel", "guess", "(I)I"⟩, 8), (⟨"BigDeskModel", "lessens", "(II)V"⟩, 8), (⟨"BigDeskModel", "isLong", "(I)Z"⟩, 8), (⟨"BigDeskModel", "longOf", "(I)J"⟩, 8), (⟨"BigDeskModel", "bits", "(I)I"⟩, 8), (⟨"BigDeskModel", "reads", "()Z"⟩, 8), (⟨"BigDeskModel", "say", "(I)V"⟩, 8)]
theorem lw_r2 : ∀ q ∈ lw_privs_2, lw_okq q := List.forall_mem_cons.mpr ⟨lw_p16, List.forall_mem_cons.mpr ⟨lw_p17, List.forall_mem_cons.mpr ⟨lw_p18, List.forall_mem_cons.mpr ⟨lw_p19, List.forall_mem_cons.mpr ⟨lw_p20, List.forall_mem_cons.mpr ⟨lw_p21, List.forall_mem_cons.mpr ⟨lw_p22, List.forall_mem_cons.mpr ⟨lw_p23, List.forall_mem_cons.mpr ⟨lw_p24, List.forall_mem_cons.mpr ⟨lw_p25, List.forall_mem_cons.mpr ⟨lw_p26, List.forall_mem_cons.mpr ⟨lw_p27, List.forall_mem_cons.mpr ⟨lw_p28, List.forall_mem_cons.mpr ⟨lw_p29, List.forall_mem_cons.mpr ⟨lw_p30, List.forall_mem_cons.mpr ⟨lw_p31, fun _ h => absurd h List.not_mem_nil⟩⟩⟩⟩⟩⟩⟩⟩⟩⟩⟩⟩⟩⟩⟩⟩
def lw_privs : List (MethodName × Nat) := lw_privs_1 ++ (lw_privs_2)
def lw_tbl : List Cond := k2_sels lw_privs ++ tables_1
theorem lw_privs_ok : ∀ q ∈ lw_privs, lw_okq q := by
  show ∀ q ∈ lw_privs_1 ++ (lw_privs_2), lw_okq q
  exact List.forall_mem_append.mpr ⟨lw_r1, lw_r2⟩
end
section
/-! ===== BEGIN words of one list among another's, by their places ===== -/
theorem goodIn_r {big : List Cond} (ws : List Cond) (ps : List Nat) (hp : ws = ps.filterMap (fun i => big[i]?)) (h : ws.all goodWord = true) : GoodIn big ws := by
  intro w hw
  have h1 := List.all_eq_true.mp h w hw
  rw [hp] at hw
  obtain ⟨i, -, hi⟩ := List.mem_filterMap.mp hw
  have hm : w ∈ big := by first | exact List.mem_of_getElem? hi | exact List.getElem?_mem hi
  exact ⟨hm, good_of_word h1⟩
theorem goodIn_app {big a b : List Cond} (ha : GoodIn big a) (hb : GoodIn big b) : GoodIn big (a ++ b) := fun w h => (List.mem_append.mp h).elim (ha w) (hb w)
theorem goodIn_ca {big a b : List Cond} {c : Cond} (ha : GoodIn big (c :: a)) (hb : GoodIn big b) : GoodIn big (c :: (a ++ b)) := fun w h => (List.mem_cons.mp h).elim (fun e => ha w (List.mem_cons.mpr (Or.inl e))) (fun h => (List.mem_append.mp h).elim (fun h => ha w (List.mem_cons.mpr (Or.inr h))) (hb w))
theorem goodIn_sub {big ws : List Cond} (hm : ∀ w ∈ ws, w ∈ big) (h : ws.all goodWord = true) : GoodIn big ws := fun w hw => ⟨hm w hw, good_of_word (List.all_eq_true.mp h w hw)⟩
/-! ===== END ===== -/

/-! ===== BEGIN exceptions that leave a method, and their catching by the caller (launches without stack traces) ===== -/
section VXA
/-! The laws vx_back, vx_callV, vx_callS, vx_callSW, vx_throw0, vx_throwS follow proofs of the library, with one case more: JvmDerived/Free/Laws.lean (Back.of_free), Shelf42/LK1.lean (callV, callS), Shelf/KitTraced.lean (throwNew0V, throwNewS). -/
/-- where a method has thrown q: the class by its name, the cell, what was written, the world -/
def vx_T (XC : String → State → State → Prop) (st : State) (q : Addr) (t : State) (mc ms : Nat) (free : Addr → Prop) : Prop :=
  ∃ (E : String) (ce : Cell) (L : List Loc), XC E st t ∧ t.heap[q]? = some ce ∧ ce.vm = .none ∧ st.vm.findClass E = some ce.cls ∧ st.WarmedH t.vm ∧ st.sameButNew ({ t with vm := st.vm } : State) L mc ms ∧ ∀ z ∈ L, free z.base
def vx_Q (Qc : Array Value → State → Outcome → State → Prop) (XC : String → State → State → Prop) (mc ms : Nat) (free : Addr → Prop) : Array Value → State → Outcome → State → Prop := fun a st o t =>
  (Qc a st o t ∧ ∃ L, FrameEnd st o t L mc ms ∧ ∀ q ∈ L, free q.base) ∨ ∃ q, o = .threw q ∧ vx_T XC st q t mc ms free
/-- a callee that returns or throws -/
def vx_Met (l : Launch) (y : MethodName) (ws : List Cond) (rm : Room) (Pc : Array Value → State → Prop) (Qc : Array Value → State → Outcome → State → Prop) (XC : String → State → State → Prop) (mc ms : Nat) (free : Addr → Prop) : Prop :=
  MetFree l y (headSpec ws rm) Pc (fun _ _ _ _ _ => True) (vx_Q Qc XC mc ms free)
def vx_Post (XC : String → State → State → Prop) (mc ms : Nat) (free : Addr → Prop) : Pt → Array Value → Addr → Pt → Prop := fun A a q B =>
  ∃ (g : JFrame) (mk : MethodId) (t : State) (L : List Loc) (E : String) (ce : Cell), B.U.heap = t.heap ∧ B.U.vm = t.vm ∧ XC E (A.U.calling g mk a) t ∧ t.heap[q]? = some ce ∧ ce.vm = .none ∧ A.U.vm.findClass E = some ce.cls ∧ B.locs = A.locs ++ L ∧ (∀ z ∈ L, free z.base) ∧ B.cells = A.cells + mc ∧ B.slots = A.slots + ms
def vx_Back (l : Launch) (R : Room) (p : Program) (e : Env) (below : List Frame) (s : State) (sargs : Array Value) (y : MethodName) (len W9 : Nat)
    (Pre : Pt → Array Value → Prop) (Post : Pt → Array Value → Option Value → Pt → Prop) (PostX : Pt → Array Value → Addr → Pt → Prop) : Prop :=
  ∀ (m : MethodId) (meth : Method) (c : Code) (A : Pt) (g : JFrame) (ig : Instr) (mk : MethodId) (a : Array Value),
    Stand p l e R s m sargs below meth c A.U A.locs A.cells A.slots → g.method = m → g.locals.size = c.maxLocals → decode c.code g.pc = .ok (ig, len) →
    2 * g.monitorRoom + (g.stack.map fun v => v.category).sum ≤ W9 → A.U.methodNamed? y = some mk → Pre A a →
    (∃ (v : Option Value) (B : Pt), Stand p l e R s m sargs below meth c B.U B.locs B.cells B.slots ∧ Post A a v B ∧
      Steps p.tables e below (doInvoke e (A.U.setTop g) [] mk a).1 (B.U.setTop { g with pc := g.pc + len, stack := v.toList ++ g.stack })) ∨
    (∃ (q : Addr) (B : Pt), Stand p l e R s m sargs below meth c B.U B.locs B.cells B.slots ∧ PostX A a q B ∧
      Steps p.tables e below (doInvoke e (A.U.setTop g) [] mk a).1 ((B.U.setTop g).pushFrame (.throwing q)))
section Payer
variable {l : Launch} {R : Room} {p : Program} {e : Env} {below : List Frame} {s : State} {sargs : Array Value} {y : MethodName} {len W9 : Nat}
theorem vx_back {ws : List Cond} {rm : Room} {Pc : Array Value → State → Prop} {Qc : Array Value → State → Outcome → State → Prop} {XC : String → State → State → Prop} {mc ms : Nat} {free : Addr → Prop} {bytes : ByteArray} {maxL : Nat} {ret : Option FieldType}
    (hM : vx_Met l y ws rm Pc Qc XC mc ms free) (hblind : FrameBlind Pc) (hrc : rm.cells = mc) (hrs : rm.slots = ms)
    (hframes : rm.frames + 1 ≤ R.frames) (hlocals : W9 + (maxL + 11) + rm.locals ≤ R.locals)
    (hws : ∀ w ∈ ws, ∀ a' U, s.WarmedH U.vm → w.before a' U = true) (hcode : Cond.code y bytes maxL ret ∈ ws) (hinit : ∀ a' U, s.WarmedH U.vm → (Cond.initialized y.cls).before a' U = true) :
    vx_Back l R p e below s sargs y len W9 (PreOf R mc ms Pc) (PostOf Qc mc ms free) (vx_Post XC mc ms free) := by
  intro m meth c A g ig mk a X hg hsize hdg hW hn hp
  have h1 : (headSpec ws rm).pre.before a A.U = true := atoms_intro fun w hw => hws w hw _ _ X.warmed
  have h2 : (Cond.code y bytes maxL ret).before a A.U = true := hws _ hcode _ _ X.warmed
  have h3 : (Cond.initialized y.cls).before a A.U = true := hinit _ _ X.warmed
  have h4 : A.cells + (headSpec ws rm).room.cells ≤ R.cells := by rw [show (headSpec ws rm).room.cells = mc from hrc]; exact hp.1
  have h5 : A.slots + (headSpec ws rm).room.slots ≤ R.slots := by rw [show (headSpec ws rm).room.slots = ms from hrs]; exact hp.2.1
  have hPc : Pc a (A.U.calling g mk a) := hblind _ _ _ _ hp.2.2
  obtain ⟨U, Ls, c0, s0⟩ := A
  dsimp only [Pt.U, Pt.locs, Pt.cells, Pt.slots] at h1 h2 h3 h4 h5 X hn hPc ⊢
  obtain ⟨methY, cY, hmY, hcY, -, hlY, -, -, -, -⟩ := Cond.code_spec hn h2
  obtain ⟨kY, hkY, -⟩ := className_of_methodNamed hn
  have hinitY : kY.init = .initialized := Cond.initialized_spec (findClass_of_methodNamed hn) hkY h3
  have h : At U g.method c below := by rw [hg]; exact X.here
  have hlocals9 : W9 + (maxL + 11) + (headSpec ws rm).room.locals ≤ R.locals := hlocals
  have happ : (headSpec ws rm).appliesLoose y e.platform (U.calling g mk a) = true :=
    Spec.appliesLoose_calling (g := g) h hdg hn hkY hinitY
      (X.room_calling (g := g) (R' := (headSpec ws rm).room) hsize hmY hcY hframes (by rw [hlY]; omega) h4 h5) h1
  obtain ⟨mid, hmid⟩ := h.above
  have hfr : (U.setTop g).frames = (.java g :: mid) ++ below := by rw [State.frames_setTop' g h.top, hmid]; rfl
  obtain ⟨o, s₂, hsteps, -, hend, hq⟩ := Steps.callFree hM p X.admits X.cas X.clock (acts := []) hfr happ hPc trivial
  have hq' : vx_Q Qc XC mc ms free a (U.calling g mk a) o s₂ := hq
  rw [State.frames_setTop' g h.top] at hend
  obtain ⟨g₀, hg0⟩ := Option.isSome_iff_exists.mp h.top
  obtain ⟨r, hr⟩ := State.topJava?_eq_some.mp hg0
  have hr' : (({ U with heap := s₂.heap, slotsUsed := s₂.slotsUsed } : State).setVm s₂.vm).frames = .java g₀ :: r := hr
  rcases hq' with ⟨hqc, L, hfe, hL⟩ | ⟨q, rfl, E, ce, L, hx, hce, hcv, hcl, hW₂, hsm, hL⟩
  · obtain ⟨⟨v, rfl⟩, hW₂, e2, q2, q3, q4, q5, q6⟩ := id hfe
    have e3 : s₂ = ({ (U.calling g mk a).setFrames s₂.frames with heap := s₂.heap, slotsUsed := s₂.slotsUsed } : State).setVm s₂.vm := by
      have : s₂ = ({ s₂ with vm := (U.calling g mk a).vm } : State).setVm s₂.vm := rfl
      rw [e2] at this
      exact this
    obtain ⟨c₂, i₂, len₂, hc₂, hd₂, hf₂⟩ := hend
    have hW' : U.WarmedH s₂.vm := hW₂
    have hcc : c₂ = c := by
      have h1 : s₂.code? g.method = U.code? g.method := by
        rw [State.code?_eq, State.code?_eq, hW'.alike.method?]
      exact Option.some.inj (hc₂.symm.trans (h1.trans h.code))
    subst hcc
    have hlen : len₂ = len := by rw [hdg] at hd₂; cases hd₂; rfl
    subst hlen
    have hs₂ : s₂ = (({ U with heap := s₂.heap, slotsUsed := s₂.slotsUsed } : State).setVm s₂.vm).setTop { g with pc := g.pc + len₂, stack := v.toList ++ g.stack } := by
      refine e3.trans ?_
      rw [hf₂, State.calling_eq h.top, State.setFrames_setFrames, State.setTop_of_frames _ hr', hr]
      rfl
    have hsame : U.sameButNew ({ U with heap := s₂.heap, slotsUsed := s₂.slotsUsed } : State) L mc ms := by
      refine ⟨?_, q2, q3, q4, q5, q6⟩
      obtain ⟨t, ht, -⟩ := State.frames_cons hr
      show ({ U with heap := s₂.heap, slotsUsed := s₂.slotsUsed } : State) = { U.setFrames U.frames with heap := s₂.heap, slotsUsed := s₂.slotsUsed }
      rw [State.setFrames_self ht]
    subst hg
    refine Or.inl ⟨v, ⟨(({ U with heap := s₂.heap, slotsUsed := s₂.slotsUsed } : State).setVm s₂.vm), Ls ++ L, c0 + mc, s0 + ms⟩,
      ⟨X.admits, X.cas, X.clock, X.frames, X.room, X.hears, X.method, X.code, (X.here.setHeapUsed s₂.heap s₂.slotsUsed).setVm hW'.alike, X.tail, State.WarmedH.trans X.warmed hW', X.limits, X.bytes, X.same.trans (hsame.setVm s.vm)⟩,
      ⟨g, mk, s₂, L, rfl, rfl, hqc, rfl, hL, rfl, rfl⟩, ?_⟩
    show Steps p.tables e below _ ((({ U with heap := s₂.heap, slotsUsed := s₂.slotsUsed } : State).setVm s₂.vm).setTop { g with pc := g.pc + len₂, stack := v.toList ++ g.stack })
    rw [← hs₂]
    exact hsteps
  · obtain ⟨e2, q2, q3, q4, q5, q6⟩ := id hsm
    have e3 : s₂ = ({ (U.calling g mk a).setFrames s₂.frames with heap := s₂.heap, slotsUsed := s₂.slotsUsed } : State).setVm s₂.vm := by
      have : s₂ = ({ s₂ with vm := (U.calling g mk a).vm } : State).setVm s₂.vm := rfl
      rw [e2] at this
      exact this
    have hf₂ : s₂.frames = .throwing q :: .java g :: U.frames.tail := hend
    have hW' : U.WarmedH s₂.vm := hW₂
    have hs₂ : s₂ = ((({ U with heap := s₂.heap, slotsUsed := s₂.slotsUsed } : State).setVm s₂.vm).setTop g).pushFrame (.throwing q) := by
      refine e3.trans ?_
      rw [hf₂, State.calling_eq h.top, State.setFrames_setFrames, State.pushFrame, State.frames_setTop _ hr', State.setTop_of_frames _ hr', State.setFrames_setFrames, hr]
      rfl
    have hsame : U.sameButNew ({ U with heap := s₂.heap, slotsUsed := s₂.slotsUsed } : State) L mc ms := by
      refine ⟨?_, q2, q3, q4, q5, q6⟩
      obtain ⟨t, ht, -⟩ := State.frames_cons hr
      show ({ U with heap := s₂.heap, slotsUsed := s₂.slotsUsed } : State) = { U.setFrames U.frames with heap := s₂.heap, slotsUsed := s₂.slotsUsed }
      rw [State.setFrames_self ht]
    subst hg
    refine Or.inr ⟨q, ⟨(({ U with heap := s₂.heap, slotsUsed := s₂.slotsUsed } : State).setVm s₂.vm), Ls ++ L, c0 + mc, s0 + ms⟩,
      ⟨X.admits, X.cas, X.clock, X.frames, X.room, X.hears, X.method, X.code, (X.here.setHeapUsed s₂.heap s₂.slotsUsed).setVm hW'.alike, X.tail, State.WarmedH.trans X.warmed hW', X.limits, X.bytes, X.same.trans (hsame.setVm s.vm)⟩,
      ⟨g, mk, s₂, L, E, ce, rfl, rfl, hx, hce, hcv, hcl, rfl, hL, rfl, rfl⟩, ?_⟩
    show Steps p.tables e below _ (((({ U with heap := s₂.heap, slotsUsed := s₂.slotsUsed } : State).setVm s₂.vm).setTop g).pushFrame (.throwing q))
    rw [← hs₂]
    exact hsteps
end Payer
section Calls
variable {p : Program} {l : Launch} {e : Env} {R : Room} {s : State} {m : MethodId} {args : Array Value} {below : List Frame} {meth : Method} {c : Code} {T : State} {locs : List Loc} {cells slots : Nat}
theorem vx_callV (X : Stand p l e R s m args below meth c T locs cells slots) (hexec : p.tables.exec = Jvm.exec) {own C : String} {index : Nat} {y : MethodName} {bytes : ByteArray} {maxL : Nat} {ret : Option FieldType}
    (hown : s.vm.findClass own = some m.cls) (hlink : (Cond.methodLink own index y).before args s = true) (hinst : (Cond.instanceMethod y).before args s = true) (hsel : (Cond.selects C y y).before args s = true)
    (hcode : (Cond.code y bytes maxL ret).before args s = true) (hy : y.cls ≠ "java/lang/invoke/MethodHandle" ∧ y.cls ≠ "java/lang/invoke/VarHandle")
    {W9 : Nat} {Pre : Pt → Array Value → Prop} {Post : Pt → Array Value → Option Value → Pt → Prop} {PostX : Pt → Array Value → Addr → Pt → Prop} (hK : vx_Back l R p e below s args y 3 W9 Pre Post PostX)
    {b : Addr} {cellB : Cell} (hcell : T.heap[b]? = some cellB) (hobj : cellB.vm.isStatics = false) (hcls : s.vm.findClass C = some cellB.cls)
    {g : JFrame} (hg : g.method = m) (hsize : g.locals.size = c.maxLocals) {argsL rest : List Value} (hlen : ∀ sig, parseMethodDescriptor y.desc = some sig → argsL.length = sig.parameters.length)
    (hstack : g.stack = argsL.reverse ++ .ref b :: rest) (hW : 2 * g.monitorRoom + (rest.map fun v => v.category).sum ≤ W9) (hdg : decode c.code g.pc = .ok (.invokevirtual index, 3))
    (hpre : ∀ vm₁, s.WarmedH vm₁ → Pre ⟨T.setVm vm₁, locs, cells, slots⟩ (Value.ref b :: argsL).toArray) :
    (∃ (v : Option Value) (vm₁ : Vm) (B : Pt), s.WarmedH vm₁ ∧ Stand p l e R s m args below meth c B.U B.locs B.cells B.slots ∧ Post ⟨T.setVm vm₁, locs, cells, slots⟩ (Value.ref b :: argsL).toArray v B ∧
      ∀ target, Steps p.tables e below (B.U.setTop { g with pc := g.pc + 3, stack := v.toList ++ rest }) target → Steps p.tables e below (T.setTop g) target) ∨
    (∃ (q : Addr) (vm₁ : Vm) (B : Pt), s.WarmedH vm₁ ∧ Stand p l e R s m args below meth c B.U B.locs B.cells B.slots ∧ PostX ⟨T.setVm vm₁, locs, cells, slots⟩ (Value.ref b :: argsL).toArray q B ∧
      Steps p.tables e below (T.setTop g) ((B.U.setTop { g with stack := rest }).pushFrame (.throwing q))) := by
  obtain ⟨mk, methM, hnamed, hmethM, hstM, habM⟩ := Cond.instanceMethod_spec hinst
  obtain ⟨methM', cM, hmethM', -, -, -, -, -, -, hsigM⟩ := Cond.code_spec hnamed hcode
  cases hmethM.symm.trans hmethM'
  obtain ⟨c2, r2, m2, q1, q2, q3, q4, kP, hkP, hkPi⟩ := Cond.selects_spec hsel
  cases hcls.symm.trans q1
  cases (State.methodFound?_of_named hnamed hy).symm.trans q2
  cases hnamed.symm.trans q3
  have hselP : selectMethod e.platform s.vm cellB.cls mk = .method mk := by rw [Launch.admits_selectMethod X.admits]; exact q4
  obtain ⟨vm₁, X₁, hstep₁⟩ := X.invokevirtual hexec hown hlink hnamed hmethM hstM hkP hkPi hy (a := b) (cell := cellB) hcell
    (fun z h => by rw [h] at hobj; cases hobj) hselP hmethM habM hkP hkPi (g := g) hg (argsL := argsL) (rest := rest) (hlen _ hsigM) hstack hdg
  rcases hK m meth c ⟨T.setVm vm₁, locs, cells, slots⟩ { g with stack := rest } (.invokevirtual index) mk (Value.ref b :: argsL).toArray X₁ hg hsize hdg hW (X₁.named hnamed) (hpre vm₁ X₁.warmed) with ⟨v, B, X', hpost, hsteps⟩ | ⟨q, B, X', hpost, hsteps⟩
  · exact Or.inl ⟨v, vm₁, B, X₁.warmed, X', hpost, fun target h => hstep₁ _ fun acts => by rw [doInvoke_state]; exact hsteps.trans h⟩
  · exact Or.inr ⟨q, vm₁, B, X₁.warmed, X', hpost, hstep₁ _ fun acts => by rw [doInvoke_state]; exact hsteps⟩
theorem vx_callS (X : Stand p l e R s m args below meth c T locs cells slots) (hexec : p.tables.exec = Jvm.exec) {own : String} {index : Nat} {y : MethodName} {bytes : ByteArray} {maxL : Nat} {ret : Option FieldType}
    (hown : s.vm.findClass own = some m.cls) (hlink : (Cond.methodLink own index y).before args s = true) (hstat : (Cond.static y).before args s = true) (hinit : (Cond.initialized y.cls).before args s = true)
    (hcode : (Cond.code y bytes maxL ret).before args s = true) (hy : y.cls ≠ "java/lang/invoke/MethodHandle" ∧ y.cls ≠ "java/lang/invoke/VarHandle")
    {W9 : Nat} {Pre : Pt → Array Value → Prop} {Post : Pt → Array Value → Option Value → Pt → Prop} {PostX : Pt → Array Value → Addr → Pt → Prop} (hK : vx_Back l R p e below s args y 3 W9 Pre Post PostX)
    {g : JFrame} (hg : g.method = m) (hsize : g.locals.size = c.maxLocals) {argsL rest : List Value} (hlen : ∀ sig, parseMethodDescriptor y.desc = some sig → argsL.length = sig.parameters.length)
    (hstack : g.stack = argsL.reverse ++ rest) (hW : 2 * g.monitorRoom + (rest.map fun v => v.category).sum ≤ W9) (hdg : decode c.code g.pc = .ok (.invokestatic index, 3))
    (hpre : ∀ vm₁, s.WarmedH vm₁ → Pre ⟨T.setVm vm₁, locs, cells, slots⟩ argsL.toArray) :
    (∃ (v : Option Value) (vm₁ : Vm) (B : Pt), s.WarmedH vm₁ ∧ Stand p l e R s m args below meth c B.U B.locs B.cells B.slots ∧ Post ⟨T.setVm vm₁, locs, cells, slots⟩ argsL.toArray v B ∧
      ∀ target, Steps p.tables e below (B.U.setTop { g with pc := g.pc + 3, stack := v.toList ++ rest }) target → Steps p.tables e below (T.setTop g) target) ∨
    (∃ (q : Addr) (vm₁ : Vm) (B : Pt), s.WarmedH vm₁ ∧ Stand p l e R s m args below meth c B.U B.locs B.cells B.slots ∧ PostX ⟨T.setVm vm₁, locs, cells, slots⟩ argsL.toArray q B ∧
      Steps p.tables e below (T.setTop g) ((B.U.setTop { g with stack := rest }).pushFrame (.throwing q))) := by
  obtain ⟨mk, hnamed⟩ := Cond.code_named hcode
  obtain ⟨methM, cM, hmethM, -, -, -, -, -, -, hsigM⟩ := Cond.code_spec hnamed hcode
  have hstatic : methM.isStatic = true := Cond.static_spec hnamed hmethM hstat
  obtain ⟨kP, hkP, -⟩ := className_of_methodNamed hnamed
  have hinitP : kP.init = .initialized := Cond.initialized_spec (findClass_of_methodNamed hnamed) hkP hinit
  obtain ⟨vm₁, X₁, hstep₁⟩ := X.invokestatic hexec hown hlink hnamed hmethM hstatic hkP hinitP hy (g := g) hg (argsL := argsL) (rest := rest) (hlen _ hsigM) hstack hdg
  rcases hK m meth c ⟨T.setVm vm₁, locs, cells, slots⟩ { g with stack := rest } (.invokestatic index) mk argsL.toArray X₁ hg hsize hdg hW (X₁.named hnamed) (hpre vm₁ X₁.warmed) with ⟨v, B, X', hpost, hsteps⟩ | ⟨q, B, X', hpost, hsteps⟩
  · exact Or.inl ⟨v, vm₁, B, X₁.warmed, X', hpost, fun target h => hstep₁ _ fun acts => by rw [doInvoke_state]; exact hsteps.trans h⟩
  · exact Or.inr ⟨q, vm₁, B, X₁.warmed, X', hpost, hstep₁ _ fun acts => by rw [doInvoke_state]; exact hsteps⟩
end Calls
theorem vx_cls {s : State} {T : State} {vm₁ : Vm} {E : String} {k : ClassId} (hW : s.WarmedH vm₁) (h : (T.setVm vm₁).vm.findClass E = some k) : s.vm.findClass E = some k := by
  have h1 : vm₁.findClass E = some k := h
  rw [hW.alike.findClass] at h1
  exact h1
/-- the method's frame g, with q thrown over it -/
def vx_W (p : Program) (l : Launch) (e : Env) (R : Room) (s : State) (m : MethodId) (args : Array Value) (below : List Frame) (meth : Method) (c : Code) (H : Heap) (locs : List Loc) (cells slots : Nat) (Q : State → Prop) (g : JFrame) (q : Addr) : Prop :=
  ∀ T : State, T.heap = H → Stand p l e R s m args below meth c T locs cells slots → ∃ t, Steps p.tables e below ((T.setTop g).pushFrame (.throwing q)) t ∧ Q t
def vx_Run (p : Program) (l : Launch) (e : Env) (R : Room) (s : State) (m : MethodId) (args : Array Value) (below : List Frame) (meth : Method) (c : Code) (H : Heap) (locs : List Loc) (cells slots mc ms : Nat) (g : JFrame) (rest : List Value) (Qa : State → Outcome → State → Prop) (XC : String → State → State → Prop) (free : Addr → Prop) : Prop :=
  ∀ T : State, T.heap = H → Stand p l e R s m args below meth c T locs cells slots →
    (∃ (v : Option Value) (st₀ t T' : State) (L : List Loc), st₀.heap = H ∧ Stand p l e R s m args below meth c T' (locs ++ L) (cells + mc) (slots + ms) ∧ (∀ q ∈ L, free q.base) ∧ T'.heap = t.heap ∧ T'.vm = t.vm ∧ Qa st₀ (.returned v) t ∧
      Goes p e below T g T' { g with pc := g.pc + 3, stack := v.toList ++ rest }) ∨
    (∃ (q : Addr) (st₀ t T' : State) (L : List Loc) (E : String) (ce : Cell), st₀.heap = H ∧ Stand p l e R s m args below meth c T' (locs ++ L) (cells + mc) (slots + ms) ∧ (∀ z ∈ L, free z.base) ∧ T'.heap = t.heap ∧ T'.vm = t.vm ∧ XC E st₀ t ∧ t.heap[q]? = some ce ∧ ce.vm = .none ∧ s.vm.findClass E = some ce.cls ∧
      Steps p.tables e below (T.setTop g) ((T'.setTop { g with stack := rest }).pushFrame (.throwing q)))
def vx_X {S : Type} (px : S → Prop) (B : String → S → State → Prop) (A : Nat → Prop) : String → State → State → Prop := fun E st t => ∃ u : S, px u ∧ B E u t ∧ va_F A st t
section Runs
variable {p : Program} {l : Launch} {e : Env} {R : Room} {s : State} {m : MethodId} {args : Array Value} {below : List Frame} {meth : Method} {c : Code} {H : Heap} {locs : List Loc} {cells slots : Nat}
variable {y : MethodName} {bytes cc : ByteArray} {maxL nL mc ms n index : Nat} {ret : Option FieldType} {ws : List Cond} {rm : Room} {Pc : Array Value → State → Prop} {Qc : Array Value → State → Outcome → State → Prop} {XC : String → State → State → Prop} {free : Addr → Prop} {Ts : List Cond} {own C : String} {b : Addr} {As rest : List Value} {g : JFrame}
theorem vx_callBack (cb : CallB R s args own index y bytes maxL ret ws rm mc ms n) (hM : vx_Met l y ws rm Pc Qc XC mc ms free) (hbl : FrameBlind Pc) : vx_Back l R p e below s args y 3 8 (PreOf R mc ms Pc) (PostOf Qc mc ms free) (vx_Post XC mc ms free) := by
  obtain ⟨hrc, hrs, hfr, hlo, hws, hcw, -, hini, -⟩ := cb
  exact vx_back (bytes := bytes) (maxL := maxL) (ret := ret) hM hbl hrc hrs hfr hlo hws hcw (fun a' U hW => word_at hW (Or.inl (by first | rfl | simp [Cond.onTables, Cond.keeps, Cond.steady])) hini)
theorem vx_runV (S : CallFix p m c cc nL s args Ts own) (hM : vx_Met l y ws rm Pc Qc XC mc ms free) (cw : CallW R s args own C index y bytes maxL ret ws rm mc ms n) (hp : PreV s H C b Pc As)
    (hg : g.method = m) (hn : As.length = n) (hsize : g.locals.size = nL) (hstack : g.stack = As.reverse ++ .ref b :: rest) (hW : 2 * g.monitorRoom + (rest.map fun v => v.category).sum ≤ 8) (hdg : decode cc g.pc = .ok (.invokevirtual index, 3)) (hf : cells + mc ≤ R.cells ∧ slots + ms ≤ R.slots) :
    vx_Run p l e R s m args below meth c H locs cells slots mc ms g rest (Qc (Value.ref b :: As).toArray) XC free := by
  have hK : vx_Back l R p e below s args y 3 8 (PreOf R mc ms Pc) (PostOf Qc mc ms free) (vx_Post XC mc ms free) := vx_callBack cw.1 hM hp.1
  obtain ⟨⟨-, -, -, -, -, -, hcode, -, hy, hlen, hl⟩, hin, hse⟩ := cw
  obtain ⟨hx, hb, hml, ho, -⟩ := S
  obtain ⟨-, ⟨cellB, hcB, hoB, hclB⟩, hPc⟩ := hp
  intro T hT X
  rcases vx_callV X hx (C := C) (bytes := bytes) (maxL := maxL) (ret := ret) ho hl hin hse hcode hy hK (by rw [hT]; exact hcB) hoB hclB hg (hsize.trans hml.symm) (argsL := As) (rest := rest) (fun sig h => hn.trans (hlen sig h)) hstack hW (by rw [hb]; exact hdg)
    (fun vm₁ hW₁ => ⟨hf.1, hf.2, hPc (T.setVm vm₁) hT hW₁⟩) with ⟨v, vm₁, ⟨U', l2, c2, s2⟩, hW₁, X', ⟨g', mk, t, L, e1, e2, hq, h1, hL, h2, h3⟩, st⟩ | ⟨q, vm₁, ⟨U', l2, c2, s2⟩, hW₁, X', ⟨g', mk, t, L, E, ce, e1, e2, hq, hce, hcv, hcl, h1, hL, h2, h3⟩, st⟩
  · dsimp only [Pt.U, Pt.locs, Pt.cells, Pt.slots] at X' e1 e2 h1 h2 h3 st
    subst h1; subst h2; subst h3
    exact Or.inl ⟨v, (T.setVm vm₁).calling g' mk (Value.ref b :: As).toArray, t, U', L, hT, X', hL, e1, e2, hq, st⟩
  · dsimp only [Pt.U, Pt.locs, Pt.cells, Pt.slots] at X' e1 e2 h1 h2 h3 st hcl
    subst h1; subst h2; subst h3
    exact Or.inr ⟨q, (T.setVm vm₁).calling g' mk (Value.ref b :: As).toArray, t, U', L, E, ce, hT, X', hL, e1, e2, hq, hce, hcv, vx_cls hW₁ hcl, st⟩
theorem vx_runS (S : CallFix p m c cc nL s args Ts own) (hM : vx_Met l y ws rm Pc Qc XC mc ms free) (cw : CallB R s args own index y bytes maxL ret ws rm mc ms n ∧ (Cond.static y).before args s = true) (hp : PreS s H Pc As)
    (hg : g.method = m) (hn : As.length = n) (hsize : g.locals.size = nL) (hstack : g.stack = As.reverse ++ rest) (hW : 2 * g.monitorRoom + (rest.map fun v => v.category).sum ≤ 8) (hdg : decode cc g.pc = .ok (.invokestatic index, 3)) (hf : cells + mc ≤ R.cells ∧ slots + ms ≤ R.slots) :
    vx_Run p l e R s m args below meth c H locs cells slots mc ms g rest (Qc As.toArray) XC free := by
  have hK : vx_Back l R p e below s args y 3 8 (PreOf R mc ms Pc) (PostOf Qc mc ms free) (vx_Post XC mc ms free) := vx_callBack cw.1 hM hp.1
  obtain ⟨⟨-, -, -, -, -, -, hcode, hini, hy, hlen, hl⟩, hstt⟩ := cw
  obtain ⟨hx, hb, hml, ho, -⟩ := S
  intro T hT X
  rcases vx_callS X hx (bytes := bytes) (maxL := maxL) (ret := ret) ho hl hstt hini hcode hy hK hg (hsize.trans hml.symm) (argsL := As) (rest := rest) (fun sig h => hn.trans (hlen sig h)) hstack hW (by rw [hb]; exact hdg)
    (fun vm₁ hW₁ => ⟨hf.1, hf.2, hp.2 (T.setVm vm₁) hT hW₁⟩) with ⟨v, vm₁, ⟨U', l2, c2, s2⟩, hW₁, X', ⟨g', mk, t, L, e1, e2, hq, h1, hL, h2, h3⟩, st⟩ | ⟨q, vm₁, ⟨U', l2, c2, s2⟩, hW₁, X', ⟨g', mk, t, L, E, ce, e1, e2, hq, hce, hcv, hcl, h1, hL, h2, h3⟩, st⟩
  · dsimp only [Pt.U, Pt.locs, Pt.cells, Pt.slots] at X' e1 e2 h1 h2 h3 st
    subst h1; subst h2; subst h3
    exact Or.inl ⟨v, (T.setVm vm₁).calling g' mk As.toArray, t, U', L, hT, X', hL, e1, e2, hq, st⟩
  · dsimp only [Pt.U, Pt.locs, Pt.cells, Pt.slots] at X' e1 e2 h1 h2 h3 st hcl
    subst h1; subst h2; subst h3
    exact Or.inr ⟨q, (T.setVm vm₁).calling g' mk As.toArray, t, U', L, E, ce, hT, X', hL, e1, e2, hq, hce, hcv, vx_cls hW₁ hcl, st⟩
end Runs
section Rows
variable {p : Program} {l : Launch} {e : Env} {R : Room} {s : State} {m : MethodId} {args : Array Value} {below : List Frame} {meth : Method} {c : Code} {H : Heap} {locs : List Loc} {cells slots : Nat} {Q : State → Prop}
variable {mc ms : Nat} {free : Addr → Prop} {A0 A1 : Nat → Prop} {H0 : Heap} {a : Array Value} {pc : Nat} {ls : Array Slot} {st0 rest : List Value}
theorem vx_keep {st₀ t T' : State} {L : List Loc} (h0 : st₀.heap = H) (e1 : T'.heap = t.heap) (hS : va_S A0 H0 H locs) (hA : ∀ q, q < H.size → A1 q → A0 q) (hf : ∀ q, free q → A0 q) (hL : ∀ q ∈ L, free q.base) (hF : va_F A1 st₀ t) :
    H.size ≤ T'.heap.size ∧ (∀ q : Nat, q < H.size → ¬ A1 q → T'.heap[q]? = H[q]?) ∧ va_S A0 H0 T'.heap (locs ++ L) := by
  obtain ⟨hz, hk⟩ := hF
  rw [h0] at hz hk
  exact ⟨by rw [e1]; exact hz, fun q h1 h2 => by rw [e1]; exact hk q h1 h2,
    ⟨Nat.le_trans hS.1 (by rw [e1]; exact hz), fun q h1 h2 => by rw [e1, hk q (Nat.lt_of_lt_of_le h1 hS.1) (fun z => h2 (hA q (Nat.lt_of_lt_of_le h1 hS.1) z))]; exact hS.2.1 q h1 h2, fun q hq => by
      rcases List.mem_append.mp hq with h | h
      · exact hS.2.2 q h
      · exact hf _ (hL q h)⟩⟩
theorem vx_calli {S SX : Type} {post : Int32 → S → Prop} {px : SX → Prop} {B : S → State → Prop} {BX : String → SX → State → Prop} {AX : Nat → Prop} (hr : vx_Run p l e R s m args below meth c H locs cells slots mc ms (F0 m pc ls st0) rest (va_Qi post B A1 a) (vx_X px BX AX) free) (hS : va_S A0 H0 H locs) (hA : ∀ q, q < H.size → A1 q → A0 q) (hf : ∀ q, free q → A0 q) (hAX : ∀ q, q < H.size → AX q → A0 q)
    (kx : ∀ (E : String) (ce : Cell) (q9 : Addr) (u : SX) (t : State) (H1 : Heap) (locs1 : List Loc), t.heap = H1 → s.vm.Alike t.vm → px u → BX E u t → H.size ≤ H1.size → (∀ q : Nat, q < H.size → ¬ AX q → H1[q]? = H[q]?) → va_S A0 H0 H1 locs1 → H1[q9]? = some ce → ce.vm = .none → s.vm.findClass E = some ce.cls → vx_W p l e R s m args below meth c H1 locs1 (cells + mc) (slots + ms) Q (F0 m pc ls rest) q9)
    (kk : ∀ (r : Int32) (u : S) (t : State) (H1 : Heap) (locs1 : List Loc), t.heap = H1 → s.vm.Alike t.vm → post r u → B u t → H.size ≤ H1.size → (∀ q : Nat, q < H.size → ¬ A1 q → H1[q]? = H[q]?) → va_S A0 H0 H1 locs1 → W p l e R s m args below meth c H1 locs1 (cells + mc) (slots + ms) Q (F0 m (pc + 3) ls (.int r :: rest))) : W p l e R s m args below meth c H locs cells slots Q (F0 m pc ls st0) := by
  intro T hT X
  rcases hr T hT X with ⟨v, st₀, t, T', L, h0, X', hL, e1, e2, ⟨⟨r, u, hv, hp, hb⟩, hF⟩, st⟩ | ⟨q, st₀, t, T', L, E, ce, h0, X', hL, e1, e2, ⟨u, hp, hb, hF⟩, hce, hcv, hcl, st⟩
  · cases hv
    obtain ⟨k1, k2, k3⟩ := vx_keep h0 e1 hS hA hf hL hF
    obtain ⟨t2, a1, b1⟩ := kk r u t T'.heap (locs ++ L) e1.symm (by rw [← e2]; exact X'.warmed.alike) hp hb k1 k2 k3 T' rfl X'
    exact ⟨t2, st t2 a1, b1⟩
  · obtain ⟨k1, k2, k3⟩ := vx_keep h0 e1 hS hAX hf hL hF
    obtain ⟨t2, a1, b1⟩ := kx E ce q u t T'.heap (locs ++ L) e1.symm (by rw [← e2]; exact X'.warmed.alike) hp hb k1 k2 k3 (by rw [e1]; exact hce) hcv hcl T' rfl X'
    exact ⟨t2, st.trans a1, b1⟩
theorem vx_calll {S SX : Type} {post : Int64 → S → Prop} {px : SX → Prop} {B : S → State → Prop} {BX : String → SX → State → Prop} {AX : Nat → Prop} (hr : vx_Run p l e R s m args below meth c H locs cells slots mc ms (F0 m pc ls st0) rest (va_Ql post B A1 a) (vx_X px BX AX) free) (hS : va_S A0 H0 H locs) (hA : ∀ q, q < H.size → A1 q → A0 q) (hf : ∀ q, free q → A0 q) (hAX : ∀ q, q < H.size → AX q → A0 q)
    (kx : ∀ (E : String) (ce : Cell) (q9 : Addr) (u : SX) (t : State) (H1 : Heap) (locs1 : List Loc), t.heap = H1 → s.vm.Alike t.vm → px u → BX E u t → H.size ≤ H1.size → (∀ q : Nat, q < H.size → ¬ AX q → H1[q]? = H[q]?) → va_S A0 H0 H1 locs1 → H1[q9]? = some ce → ce.vm = .none → s.vm.findClass E = some ce.cls → vx_W p l e R s m args below meth c H1 locs1 (cells + mc) (slots + ms) Q (F0 m pc ls rest) q9)
    (kk : ∀ (r : Int64) (u : S) (t : State) (H1 : Heap) (locs1 : List Loc), t.heap = H1 → s.vm.Alike t.vm → post r u → B u t → H.size ≤ H1.size → (∀ q : Nat, q < H.size → ¬ A1 q → H1[q]? = H[q]?) → va_S A0 H0 H1 locs1 → W p l e R s m args below meth c H1 locs1 (cells + mc) (slots + ms) Q (F0 m (pc + 3) ls (.long r :: rest))) : W p l e R s m args below meth c H locs cells slots Q (F0 m pc ls st0) := by
  intro T hT X
  rcases hr T hT X with ⟨v, st₀, t, T', L, h0, X', hL, e1, e2, ⟨⟨r, u, hv, hp, hb⟩, hF⟩, st⟩ | ⟨q, st₀, t, T', L, E, ce, h0, X', hL, e1, e2, ⟨u, hp, hb, hF⟩, hce, hcv, hcl, st⟩
  · cases hv
    obtain ⟨k1, k2, k3⟩ := vx_keep h0 e1 hS hA hf hL hF
    obtain ⟨t2, a1, b1⟩ := kk r u t T'.heap (locs ++ L) e1.symm (by rw [← e2]; exact X'.warmed.alike) hp hb k1 k2 k3 T' rfl X'
    exact ⟨t2, st t2 a1, b1⟩
  · obtain ⟨k1, k2, k3⟩ := vx_keep h0 e1 hS hAX hf hL hF
    obtain ⟨t2, a1, b1⟩ := kx E ce q u t T'.heap (locs ++ L) e1.symm (by rw [← e2]; exact X'.warmed.alike) hp hb k1 k2 k3 (by rw [e1]; exact hce) hcv hcl T' rfl X'
    exact ⟨t2, st.trans a1, b1⟩
theorem vx_callf {S SX : Type} {post : UInt32 → S → Prop} {px : SX → Prop} {B : S → State → Prop} {BX : String → SX → State → Prop} {AX : Nat → Prop} (hr : vx_Run p l e R s m args below meth c H locs cells slots mc ms (F0 m pc ls st0) rest (va_Qf post B A1 a) (vx_X px BX AX) free) (hS : va_S A0 H0 H locs) (hA : ∀ q, q < H.size → A1 q → A0 q) (hf : ∀ q, free q → A0 q) (hAX : ∀ q, q < H.size → AX q → A0 q)
    (kx : ∀ (E : String) (ce : Cell) (q9 : Addr) (u : SX) (t : State) (H1 : Heap) (locs1 : List Loc), t.heap = H1 → s.vm.Alike t.vm → px u → BX E u t → H.size ≤ H1.size → (∀ q : Nat, q < H.size → ¬ AX q → H1[q]? = H[q]?) → va_S A0 H0 H1 locs1 → H1[q9]? = some ce → ce.vm = .none → s.vm.findClass E = some ce.cls → vx_W p l e R s m args below meth c H1 locs1 (cells + mc) (slots + ms) Q (F0 m pc ls rest) q9)
    (kk : ∀ (r : UInt32) (u : S) (t : State) (H1 : Heap) (locs1 : List Loc), t.heap = H1 → s.vm.Alike t.vm → post r u → B u t → H.size ≤ H1.size → (∀ q : Nat, q < H.size → ¬ A1 q → H1[q]? = H[q]?) → va_S A0 H0 H1 locs1 → W p l e R s m args below meth c H1 locs1 (cells + mc) (slots + ms) Q (F0 m (pc + 3) ls (.float r :: rest))) : W p l e R s m args below meth c H locs cells slots Q (F0 m pc ls st0) := by
  intro T hT X
  rcases hr T hT X with ⟨v, st₀, t, T', L, h0, X', hL, e1, e2, ⟨⟨r, u, hv, hp, hb⟩, hF⟩, st⟩ | ⟨q, st₀, t, T', L, E, ce, h0, X', hL, e1, e2, ⟨u, hp, hb, hF⟩, hce, hcv, hcl, st⟩
  · cases hv
    obtain ⟨k1, k2, k3⟩ := vx_keep h0 e1 hS hA hf hL hF
    obtain ⟨t2, a1, b1⟩ := kk r u t T'.heap (locs ++ L) e1.symm (by rw [← e2]; exact X'.warmed.alike) hp hb k1 k2 k3 T' rfl X'
    exact ⟨t2, st t2 a1, b1⟩
  · obtain ⟨k1, k2, k3⟩ := vx_keep h0 e1 hS hAX hf hL hF
    obtain ⟨t2, a1, b1⟩ := kx E ce q u t T'.heap (locs ++ L) e1.symm (by rw [← e2]; exact X'.warmed.alike) hp hb k1 k2 k3 (by rw [e1]; exact hce) hcv hcl T' rfl X'
    exact ⟨t2, st.trans a1, b1⟩
theorem vx_calld {S SX : Type} {post : UInt64 → S → Prop} {px : SX → Prop} {B : S → State → Prop} {BX : String → SX → State → Prop} {AX : Nat → Prop} (hr : vx_Run p l e R s m args below meth c H locs cells slots mc ms (F0 m pc ls st0) rest (va_Qd post B A1 a) (vx_X px BX AX) free) (hS : va_S A0 H0 H locs) (hA : ∀ q, q < H.size → A1 q → A0 q) (hf : ∀ q, free q → A0 q) (hAX : ∀ q, q < H.size → AX q → A0 q)
    (kx : ∀ (E : String) (ce : Cell) (q9 : Addr) (u : SX) (t : State) (H1 : Heap) (locs1 : List Loc), t.heap = H1 → s.vm.Alike t.vm → px u → BX E u t → H.size ≤ H1.size → (∀ q : Nat, q < H.size → ¬ AX q → H1[q]? = H[q]?) → va_S A0 H0 H1 locs1 → H1[q9]? = some ce → ce.vm = .none → s.vm.findClass E = some ce.cls → vx_W p l e R s m args below meth c H1 locs1 (cells + mc) (slots + ms) Q (F0 m pc ls rest) q9)
    (kk : ∀ (r : UInt64) (u : S) (t : State) (H1 : Heap) (locs1 : List Loc), t.heap = H1 → s.vm.Alike t.vm → post r u → B u t → H.size ≤ H1.size → (∀ q : Nat, q < H.size → ¬ A1 q → H1[q]? = H[q]?) → va_S A0 H0 H1 locs1 → W p l e R s m args below meth c H1 locs1 (cells + mc) (slots + ms) Q (F0 m (pc + 3) ls (.double r :: rest))) : W p l e R s m args below meth c H locs cells slots Q (F0 m pc ls st0) := by
  intro T hT X
  rcases hr T hT X with ⟨v, st₀, t, T', L, h0, X', hL, e1, e2, ⟨⟨r, u, hv, hp, hb⟩, hF⟩, st⟩ | ⟨q, st₀, t, T', L, E, ce, h0, X', hL, e1, e2, ⟨u, hp, hb, hF⟩, hce, hcv, hcl, st⟩
  · cases hv
    obtain ⟨k1, k2, k3⟩ := vx_keep h0 e1 hS hA hf hL hF
    obtain ⟨t2, a1, b1⟩ := kk r u t T'.heap (locs ++ L) e1.symm (by rw [← e2]; exact X'.warmed.alike) hp hb k1 k2 k3 T' rfl X'
    exact ⟨t2, st t2 a1, b1⟩
  · obtain ⟨k1, k2, k3⟩ := vx_keep h0 e1 hS hAX hf hL hF
    obtain ⟨t2, a1, b1⟩ := kx E ce q u t T'.heap (locs ++ L) e1.symm (by rw [← e2]; exact X'.warmed.alike) hp hb k1 k2 k3 (by rw [e1]; exact hce) hcv hcl T' rfl X'
    exact ⟨t2, st.trans a1, b1⟩
theorem vx_callv {S SX : Type} {post : S → Prop} {px : SX → Prop} {B : S → State → Prop} {BX : String → SX → State → Prop} {AX : Nat → Prop} (hr : vx_Run p l e R s m args below meth c H locs cells slots mc ms (F0 m pc ls st0) rest (va_Qv post B A1 a) (vx_X px BX AX) free) (hS : va_S A0 H0 H locs) (hA : ∀ q, q < H.size → A1 q → A0 q) (hf : ∀ q, free q → A0 q) (hAX : ∀ q, q < H.size → AX q → A0 q)
    (kx : ∀ (E : String) (ce : Cell) (q9 : Addr) (u : SX) (t : State) (H1 : Heap) (locs1 : List Loc), t.heap = H1 → s.vm.Alike t.vm → px u → BX E u t → H.size ≤ H1.size → (∀ q : Nat, q < H.size → ¬ AX q → H1[q]? = H[q]?) → va_S A0 H0 H1 locs1 → H1[q9]? = some ce → ce.vm = .none → s.vm.findClass E = some ce.cls → vx_W p l e R s m args below meth c H1 locs1 (cells + mc) (slots + ms) Q (F0 m pc ls rest) q9)
    (kk : ∀ (u : S) (t : State) (H1 : Heap) (locs1 : List Loc), t.heap = H1 → s.vm.Alike t.vm → post u → B u t → H.size ≤ H1.size → (∀ q : Nat, q < H.size → ¬ A1 q → H1[q]? = H[q]?) → va_S A0 H0 H1 locs1 → W p l e R s m args below meth c H1 locs1 (cells + mc) (slots + ms) Q (F0 m (pc + 3) ls (rest))) : W p l e R s m args below meth c H locs cells slots Q (F0 m pc ls st0) := by
  intro T hT X
  rcases hr T hT X with ⟨v, st₀, t, T', L, h0, X', hL, e1, e2, ⟨⟨u, hv, hp, hb⟩, hF⟩, st⟩ | ⟨q, st₀, t, T', L, E, ce, h0, X', hL, e1, e2, ⟨u, hp, hb, hF⟩, hce, hcv, hcl, st⟩
  · cases hv
    obtain ⟨k1, k2, k3⟩ := vx_keep h0 e1 hS hA hf hL hF
    obtain ⟨t2, a1, b1⟩ := kk u t T'.heap (locs ++ L) e1.symm (by rw [← e2]; exact X'.warmed.alike) hp hb k1 k2 k3 T' rfl X'
    exact ⟨t2, st t2 a1, b1⟩
  · obtain ⟨k1, k2, k3⟩ := vx_keep h0 e1 hS hAX hf hL hF
    obtain ⟨t2, a1, b1⟩ := kx E ce q u t T'.heap (locs ++ L) e1.symm (by rw [← e2]; exact X'.warmed.alike) hp hb k1 k2 k3 (by rw [e1]; exact hce) hcv hcl T' rfl X'
    exact ⟨t2, st.trans a1, b1⟩
/-- caught by the row x of this method's table; the rows ahead don't take it -/
theorem vx_catch {own name : String} {E : String} {ce : Cell} {q : Addr} (hown : s.vm.findClass own = some m.cls) (pre : List ExceptionTableEntry) (x : ExceptionTableEntry) (suf : List ExceptionTableEntry) (hsplit : c.exceptionTable.toList = pre ++ x :: suf)
    (hpass : ∀ z ∈ pre, covers z pc = false ∨ (z.catchType ≠ 0 ∧ ∃ nm : String, (Cond.classLink own z.catchType nm).before args s = true ∧ va_Nc E nm s)) (hx : covers x pc = true) (h0 : x.catchType ≠ 0)
    (hlink : (Cond.classLink own x.catchType name).before args s = true) (hcast : (Cond.castable E name).before args s = true) (hcell : H[q]? = some ce) (hv : ce.vm = .none) (hcl : s.vm.findClass E = some ce.cls)
    (kk : W p l e R s m args below meth c H locs cells slots Q (F0 m x.handlerPc ls [.ref q])) : vx_W p l e R s m args below meth c H locs cells slots Q (F0 m pc ls rest) q := by
  intro T hT X
  have hpl : e.platform.magicAccessors = ({} : Platform).magicAccessors := by rw [X.admits.platform]
  obtain ⟨c3, c4, hc3, hc4, hasg⟩ := Cond.castable_spec hcast
  cases Option.some.inj (hc3.symm.trans hcl)
  obtain ⟨c5, hc5, hcl5⟩ := Cond.classLink_spec hown hlink e.platform hpl
  cases Option.some.inj (hc4.symm.trans hc5)
  obtain ⟨vm', X', st⟩ := X.thenCaughtThrough q (g := F0 m pc ls rest) rfl (Steps.refl _) (by rw [hT]; exact hcell) (by rw [hv]; rfl) (by obtain ⟨k9, h9, -⟩ := Vm.findClass_spec hcl; exact ⟨k9, h9⟩) pre x suf hsplit
    (fun z hz => by
      rcases hpass z hz with h | ⟨hz0, nm, hl1, hn1⟩
      · exact Or.inl h
      · obtain ⟨c6, hc6, hcl6⟩ := Cond.classLink_spec hown hl1 e.platform hpl
        obtain ⟨a8, b8, h1, h2, h3⟩ := hn1
        cases Option.some.inj (h1.symm.trans hcl)
        cases Option.some.inj (h2.symm.trans hc6)
        exact Or.inr ⟨hz0, _, hcl6, h3⟩) hx (Or.inr ⟨h0, c4, hcl5, hasg⟩)
  obtain ⟨t, a1, b1⟩ := kk (T.setVm vm') hT X'
  exact ⟨t, st.trans a1, b1⟩
end Rows
section Ends
variable {p : Program} {l : Launch} {e : Env} {R : Room} {s : State} {m : MethodId} {args : Array Value} {below : List Frame} {meth : Method} {c : Code} {H : Heap} {locs : List Loc} {cells slots : Nat} {Q : State → Prop}
variable {mc ms : Nat} {free : Addr → Prop} {A0 A1 : Nat → Prop} {H0 : Heap} {a : Array Value} {ls : Array Slot} {st0 rest : List Value}
variable {Qc : Array Value → State → Outcome → State → Prop} {XC : String → State → State → Prop}
/-- what a body that may throw owes at its end -/
def vx_MQ (below : List Frame) (Qc : Array Value → State → Outcome → State → Prop) (XC : String → State → State → Prop) (a : Array Value) (s : State) (mc ms : Nat) (free : Addr → Prop) : State → Prop := fun t =>
  ∃ o, t.status = .running ∧ Ended t below o ∧ vx_Q Qc XC mc ms free a s o t
theorem vx_ret {g : JFrame} {mc ms : Nat} (k : W p l e R s m args below meth c H locs cells slots (MQ below Qc args s mc ms free) g) : W p l e R s m args below meth c H locs cells slots (vx_MQ below Qc XC args s mc ms free) g := by
  intro T hT X
  obtain ⟨t, a1, o, b1, b2, b3, b4⟩ := k T hT X
  exact ⟨t, a1, o, b1, b2, Or.inl ⟨b3, b4⟩⟩
/-- not caught here: it goes on to the caller -/
theorem vx_widen {g : JFrame} {q : Addr} {k n : Nat} (h1 : cells ≤ k) (h2 : slots ≤ n) (kk : vx_W p l e R s m args below meth c H locs k n Q g q) : vx_W p l e R s m args below meth c H locs cells slots Q g q := fun T hT X => kk T hT (stand_widen X h1 h2)
theorem vx_out {pc : Nat} {E : String} {ce : Cell} {q : Addr} {mc ms : Nat} (hout : ∀ x ∈ c.exceptionTable.toList, covers x pc = false) (hlocks : meth.locks = false) (hcell : H[q]? = some ce) (hv : ce.vm = .none) (hcl : s.vm.findClass E = some ce.cls)
    (hx : ∀ t : State, t.heap = H → s.vm.Alike t.vm → XC E s t) (hf : ∀ z ∈ locs, free z.base) (hc : cells ≤ mc) (hs : slots ≤ ms) :
    vx_W p l e R s m args below meth c H locs cells slots (vx_MQ below Qc XC args s mc ms free) (F0 m pc ls rest) q := by
  intro T hT X
  obtain ⟨st1, hrun, hend, hW, hsm⟩ := X.leaveThrown q (g := F0 m pc ls rest) rfl rfl rfl hout hlocks
  have hcell9 : (T.setFrames (.throwing q :: below)).heap[q]? = some ce := by
    show T.heap[q]? = some ce
    rw [hT]; exact hcell
  exact ⟨_, st1, .threw q, hrun, hend, Or.inr ⟨q, rfl, E, ce, locs, hx _ hT hW.alike, hcell9, hv, hcl, hW, hsm.mono hc hs, hf⟩⟩
theorem vx_frame {U : State} {k n : Nat} (h : s.sameButNew ({ U with vm := s.vm } : State) locs k n) : s.heap.size ≤ U.heap.size ∧ ∀ q : Nat, q < s.heap.size → (∀ z ∈ locs, z.base ≠ q) → U.heap[q]? = s.heap[q]? := by
  obtain ⟨-, h2, -, -, -, h6⟩ := h
  refine ⟨h2, fun q hq hz => ?_⟩
  obtain ⟨c9, e1, e2, e3, e4⟩ := h6 q _ (Array.getElem?_eq_getElem hq)
  have hs : c9.slots = (s.heap[q]).slots := Array.ext_getElem? fun i => e4 i fun hm => hz _ hm rfl
  have h9 : c9 = s.heap[q] := by
    rw [hs] at e2
    exact e2
  have e5 : U.heap[q]? = some c9 := e1
  rw [e5, h9, Array.getElem?_eq_getElem hq]
/-- the words of a throw but the four that speak of the heap -/
def vx_no (w : Cond) : Bool := decide (w ≠ .isRef (.static Bundle.tN "UNASSIGNED_STACK" Bundle.steD)) && decide (w ≠ .isRef (.static Bundle.tN "SUPPRESSED_SENTINEL" Bundle.listD)) && decide (w ≠ .laysStatic Bundle.tN "UNASSIGNED_STACK" Bundle.steD) && decide (w ≠ .laysStatic Bundle.tN "SUPPRESSED_SENTINEL" Bundle.listD)
def vx_at0 (own : String) (ic : Nat) (X : String) (names : List String) : List Cond := (Bundle.ownAtoms0 own ic X names).filter vx_no
def vx_atS (own : String) (ic : Nat) (X : String) (names : List String) : List Cond := (Bundle.ownAtoms own ic X names).filter vx_no
/-- a word that the tables alone decide, or a good one -/
def vx_ot (w : Cond) : Bool := w.onTables || goodWord w
theorem vx_ot_at {args a' : Array Value} {s U : State} {w : Cond} (hW : s.WarmedH U.vm) (hvm : s.vm = U.vm) (hg : vx_ot w = true) (h : w.before args s = true) : w.before a' U = true := by
  simp only [vx_ot, Bool.or_eq_true] at hg
  rcases hg with hg | hg
  · exact va_tabs hg hvm h
  · exact word_at hW (good_of_word hg) h
/-- a list's words: the good ones out of the method's own list, the others by premises of their own -/
theorem vx_hat {args : Array Value} {s : State} {L B : List Cond} (h1 : ∀ w ∈ L.filter goodWord, w.before args s = true) (h2 : ∀ w ∈ L.filter (fun w => !goodWord w), w ∈ B) (h3 : ∀ w ∈ B, w.before args s = true) : ∀ w ∈ L, w.before args s = true := by
  intro w hw
  by_cases g : goodWord w = true
  · exact h1 w (List.mem_filter.mpr ⟨hw, g⟩)
  · refine h3 w (h2 w (List.mem_filter.mpr ⟨hw, ?_⟩))
    show (!goodWord w) = true
    cases hgw : goodWord w
    · rfl
    · exact absurd hgw g
theorem vx_c {args : Array Value} {s : State} {w : Cond} {B : List Cond} (h : w.before args s = true) (t : ∀ w ∈ B, w.before args s = true) : ∀ w' ∈ w :: B, w'.before args s = true := fun w' h' => (List.mem_cons.mp h').elim (fun e => by rw [e]; exact h) (t w')
theorem vx_n {args : Array Value} {s : State} : ∀ w ∈ ([] : List Cond), w.before args s = true := fun _ h => nomatch h
theorem vx_own {args : Array Value} {s : State} {L : List Cond} (h1 : ∀ w ∈ L.filter vx_no, w.before args s = true)
    (hU : (Cond.isRef (.static Bundle.tN "UNASSIGNED_STACK" Bundle.steD)).before args s = true) (hN : (Cond.isRef (.static Bundle.tN "SUPPRESSED_SENTINEL" Bundle.listD)).before args s = true)
    (lU : (Cond.laysStatic Bundle.tN "UNASSIGNED_STACK" Bundle.steD).before args s = true) (lN : (Cond.laysStatic Bundle.tN "SUPPRESSED_SENTINEL" Bundle.listD).before args s = true) : ∀ w ∈ L, w.before args s = true := by
  intro w hw
  by_cases e1 : w = .isRef (.static Bundle.tN "UNASSIGNED_STACK" Bundle.steD)
  · rw [e1]; exact hU
  · by_cases e2 : w = .isRef (.static Bundle.tN "SUPPRESSED_SENTINEL" Bundle.listD)
    · rw [e2]; exact hN
    · by_cases e3 : w = .laysStatic Bundle.tN "UNASSIGNED_STACK" Bundle.steD
      · rw [e3]; exact lU
      · by_cases e4 : w = .laysStatic Bundle.tN "SUPPRESSED_SENTINEL" Bundle.listD
        · rw [e4]; exact lN
        · exact h1 w (List.mem_filter.mpr ⟨hw, by unfold vx_no; rw [decide_eq_true e1, decide_eq_true e2, decide_eq_true e3, decide_eq_true e4]; rfl⟩)
/-- where a static field lies, its class's statics cell in H -/
def vx_L (C n d : String) (A : Nat → Prop) (U : State) (H : Heap) : Prop := ∃ (c : ClassId) (k : Class) (i : Nat) (f : Field) (a : Nat) (cell : Cell), U.vm.findClass C = some c ∧ U.fieldFound? C n d = some (c, k, i, f) ∧ f.isStatic = true ∧ k.statics = some a ∧ H[a]? = some cell ∧ cell.vm.isStatics = true ∧ cell.cls = c ∧ f.slot < cell.slots.size ∧ k.staticTypes[f.slot]? = some f.type ∧ ¬ A a
theorem vx_L.moved {C n d : String} {A : Nat → Prop} {u U : State} {H : Heap} (hvm : u.vm.Alike U.vm) (h : vx_L C n d A u H) : vx_L C n d A U H := by
  obtain ⟨c, k, i, f, a, cell, h1, h2, h3, h4, h5, h6, h7, h8, h9, h10⟩ := h
  obtain ⟨k', hi', he⟩ := State.fieldFound?_setVm hvm h2
  exact ⟨c, k', i, f, a, cell, by rw [hvm.findClass]; exact h1, hi', h3, by rw [he]; exact h4, h5, h6, h7, h8, by rw [he]; exact h9, h10⟩
theorem vx_L.kept {C n d : String} {A : Nat → Prop} {U : State} {H H1 : Heap} (h : vx_L C n d A U H) (hq : ∀ a : Nat, a < H.size → ¬ A a → H1[a]? = H[a]?) : vx_L C n d A U H1 := by
  obtain ⟨c, k, i, f, a, cell, h1, h2, h3, h4, h5, h6, h7, h8, h9, h10⟩ := h
  exact ⟨c, k, i, f, a, cell, h1, h2, h3, h4, by rw [hq a (Array.getElem?_eq_some_iff.mp h5).1 h10]; exact h5, h6, h7, h8, h9, h10⟩
theorem vx_L.narrow {C n d : String} {A B : Nat → Prop} {U : State} {H : Heap} (h : vx_L C n d A U H) (hAB : ∀ q, B q → A q) : vx_L C n d B U H := by
  obtain ⟨c, k, i, f, a, cell, h1, h2, h3, h4, h5, h6, h7, h8, h9, h10⟩ := h
  exact ⟨c, k, i, f, a, cell, h1, h2, h3, h4, h5, h6, h7, h8, h9, fun z => h10 (hAB _ z)⟩
theorem vx_L.word {C n d : String} {A : Nat → Prop} {s : State} {args : Array Value} (h : vx_L C n d A s s.heap) : (Cond.laysStatic C n d).before args s = true := by
  obtain ⟨c, k, i, f, a, cell, h1, h2, h3, h4, h5, h6, h7, h8, h9, -⟩ := h
  show (Cond.laysStatic C n d).holds args s none s [] = true
  exact Cond.laysStatic_of h1 h2 h3 h4 h5 h6 h7 h8 h9
/-- .. and what it holds: null or some reference -/
def vx_Zq (C n d : String) (A : Nat → Prop) (U : State) (H : Heap) : Prop := va_Zq C n d A U H ∧ vx_L C n d A U H
theorem vx_Zq.moved {C n d : String} {A : Nat → Prop} {u U : State} {H : Heap} (hvm : u.vm.Alike U.vm) (h : vx_Zq C n d A u H) : vx_Zq C n d A U H := ⟨va_Zq.moved hvm h.1, vx_L.moved hvm h.2⟩
theorem vx_Zq.kept {C n d : String} {A : Nat → Prop} {U : State} {H H1 : Heap} (h : vx_Zq C n d A U H) (hq : ∀ a : Nat, a < H.size → ¬ A a → H1[a]? = H[a]?) : vx_Zq C n d A U H1 := ⟨va_Zq.kept h.1 hq, vx_L.kept h.2 hq⟩
theorem vx_Zq.narrow {C n d : String} {A B : Nat → Prop} {U : State} {H : Heap} (h : vx_Zq C n d A U H) (hAB : ∀ q, B q → A q) : vx_Zq C n d B U H := ⟨va_Zq.narrow h.1 hAB, vx_L.narrow h.2 hAB⟩
theorem vx_Zqof {args : Array Value} {s : State} {C n d : String} {A : Nat → Prop} (hl : (Cond.laysStatic C n d).before args s = true) (hini : (Cond.initialized C).before args s = true) (h : (Cond.isRef (.static C n d)).before args s = true) (hA : ∀ a : Nat, a < s.heap.size → ¬ A a) : vx_Zq C n d A s s.heap := by
  refine ⟨va_Zqof hl hini h hA, ?_⟩
  obtain ⟨c, k, i, f, a, cell, h1, h2, h3, h4, h5, h6, h7, h8, h9⟩ := Cond.laysStatic_spec hl
  exact ⟨c, k, i, f, a, cell, h1, h2, h3, h4, h5, h6, h7, h8, h9, hA a (Array.getElem?_eq_some_iff.mp h5).1⟩
theorem vx_isRef {C n d : String} {v : Value} {A : Nat → Prop} {s : State} {args : Array Value} (h : va_Z C n d v A s s.heap) (hv : v.isRef = true) : (Cond.isRef (.static C n d)).before args s = true := by
  obtain ⟨cf, kf, fi, f, a, cell, h1, h2, h3, h4, h5, h6, h7, -⟩ := h
  have he : (Term.static C n d).eval args s none [] s = some v := by
    simp [Term.eval, State.fieldNamed?, h1, h2, h4, h5, h6, h7]
  simp only [Cond.before, Cond.holds, Cond.value, he]
  cases v <;> simp_all [Value.isRef]
theorem vx_isRefq {C n d : String} {A : Nat → Prop} {s : State} {args : Array Value} (h : va_Zq C n d A s s.heap) : (Cond.isRef (.static C n d)).before args s = true := by
  rcases h with h | ⟨t, h⟩
  · exact vx_isRef h rfl
  · exact vx_isRef h rfl
/-- the same frame, seen from here: as if the method were called anew in this heap -/
theorem vx_rebase {T : State} (X : Stand p l e R s m args below meth c T locs cells slots) {R' : Room} (hf : R'.frames ≤ R.frames) (hl : R'.locals ≤ R.locals) (hc : cells + R'.cells ≤ R.cells) (hs : slots + R'.slots ≤ R.slots) :
    Stand p l e R' ((T.setVm s.vm).setFrames (.invoking m args :: below)) m args below meth c T [] 0 0 := by
  have htop : (T.setVm s.vm).topJava?.isSome := X.here.top
  have hF : ((T.setVm s.vm).setFrames (.invoking m args :: below)).frames = .invoking m args :: below := State.frames_setFrames _ (State.cur_lt_of_top htop)
  obtain ⟨g₀, hg0⟩ := Option.isSome_iff_exists.mp htop
  obtain ⟨r, hr⟩ := State.topJava?_eq_some.mp hg0
  have hl9 : e.platform.stackLimits (T.setVm s.vm).me = e.platform.stackLimits s.me := X.limits
  have hb9 : (T.setVm s.vm).me.stackBytes = s.me.stackBytes := X.bytes
  refine ⟨X.admits, X.cas, X.clock, hF, ?_, X.hears, X.method, X.code, X.here, X.tail, X.warmed, ?_, ?_, ?_⟩
  · have h := X.room
    have hU : ((T.setVm s.vm).setFrames (.invoking m args :: below)).localsInUse = s.localsInUse := by
      rw [State.localsInUse_invoking hF (meth := meth) (c := c) X.method X.code, State.localsInUse_invoking X.frames X.method X.code]
    simp only [State.hasRoom, Bool.and_eq_true, decide_eq_true_eq] at h ⊢
    obtain ⟨⟨⟨⟨h1, h2, h3, h4, h5, h6⟩, h7⟩, h8⟩, h9⟩ := h
    rw [X.frames, List.length_cons] at h2 h3
    have q1 := X.heapSize
    have q2 := X.used
    simp only [hF, hU, List.length_cons, State.stackLimits_setFrames, State.stackBytes_setFrames, hl9, hb9]
    refine ⟨⟨⟨⟨by omega, by omega, by omega, by omega, by omega, h6⟩, ?_⟩, ?_⟩, X.book⟩
    · show T.heap.size + R'.cells ≤ e.platform.maxCells
      omega
    · show T.slotsUsed + R'.slots ≤ e.platform.maxSlots
      omega
  · rw [State.stackLimits_setFrames]; rfl
  · rw [State.stackBytes_setFrames]; rfl
  · refine ⟨?_, Nat.le_refl _, Nat.le_refl _, ?_, ?_, fun a c9 h9 => ⟨c9, h9, rfl, rfl, fun _ _ => rfl⟩⟩
    · obtain ⟨t, ht, -⟩ := State.frames_cons hr
      show T.setVm s.vm = { ((T.setVm s.vm).setFrames (.invoking m args :: below)).setFrames (T.setVm s.vm).frames with heap := T.heap, slotsUsed := T.slotsUsed }
      rw [State.setFrames_setFrames, State.setFrames_self ht]
      rfl
    · show T.slotsUsed = T.slotsUsed + ((T.heap.toList.drop T.heap.size).map (·.slots.size)).sum
      rw [List.drop_eq_nil_of_le (Nat.le_of_eq Array.length_toList)]
      rfl
    · show ((T.heap.toList.drop T.heap.size).map (·.slots.size)).sum ≤ 0
      rw [List.drop_eq_nil_of_le (Nat.le_of_eq Array.length_toList)]
      exact Nat.le_refl _
/-- 'throw new E()': new; dup; invokespecial; athrow -/
theorem vx_throw0 {cc : ByteArray} {pc : Nat} (hexec : p.tables.exec = Jvm.exec) (hb : c.code = cc) (hl : l.stackTraces = false) {own cls : String} {names : List String} {ik ic mc ms : Nat} {A : Nat → Prop}
    (hown : s.vm.findClass own = some m.cls) (hcls : Bundle.fit cls = true) (hnames : ∀ n ∈ names, Bundle.fit n = true)
    (hk : (Cond.classLink own ik cls).before args s = true) (hini : (Cond.initialized cls).before args s = true) (hat : ∀ w ∈ vx_at0 own ic cls names, w.before args s = true)
    (hgood : ∀ w ∈ Cond.classLink own ik cls :: Cond.initialized cls :: vx_at0 own ic cls names, vx_ot w = true)
    (hU : vx_Zq Bundle.tN "UNASSIGNED_STACK" Bundle.steD A s s.heap) (hN : vx_Zq Bundle.tN "SUPPRESSED_SENTINEL" Bundle.listD A s s.heap) (hS : va_S A s.heap H locs) (hsize : ls.size = c.maxLocals)
    (d0 : decode cc pc = .ok (.new ik, 3)) (d3 : decode cc (pc + 3) = .ok (.dup, 1)) (d4 : decode cc (pc + 4) = .ok (.invokespecial ic, 3)) (d7 : decode cc (pc + 7) = .ok (.athrow, 1))
    (hout : ∀ x ∈ c.exceptionTable.toList, covers x (pc + 7) = false)
    (hRframes : names.length + 3 < R.frames) (hRlocals : (rest.map fun v => v.category).sum + (13 * (names.length + 1) + 42) ≤ R.locals) (hRcells : cells + 1 ≤ R.cells) (hRslots : slots + 6 ≤ R.slots) (hlocks : meth.locks = false)
    (hx : ∀ t : State, s.vm.Alike t.vm → H.size ≤ t.heap.size → (∀ q : Nat, q < H.size → t.heap[q]? = H[q]?) → XC cls s t)
    (hf : ∀ z ∈ locs, free z.base) (hc : cells + 1 ≤ mc) (hs : slots + 6 ≤ ms) :
    W p l e R s m args below meth c H locs cells slots (vx_MQ below Qc XC args s mc ms free) (F0 m pc ls rest) := by
  intro T hT X
  have htr : e.platform.stackTraces = false := (show e.platform.stackTraces = l.stackTraces by rw [X.admits.platform]).trans hl
  have Y := vx_rebase X (R' := { frames := R.frames, locals := R.locals, cells := 1, slots := 6 }) (Nat.le_refl _) (Nat.le_refl _) hRcells hRslots
  obtain ⟨s', hA⟩ : ∃ z, z = (T.setVm s.vm).setFrames (.invoking m args :: below) := ⟨_, rfl⟩
  rw [← hA] at Y
  have hvm : s'.vm = s.vm := by rw [hA]; rfl
  have hhp : s'.heap = H := by rw [hA]; exact hT
  have hW0 : s.WarmedH s'.vm := by rw [hvm]; exact State.WarmedH.refl s
  have hat' : ∀ w ∈ vx_at0 own ic cls names, w.before args s' = true := fun w hw => vx_ot_at hW0 hvm.symm (hgood w (List.mem_cons_of_mem _ (List.mem_cons_of_mem _ hw))) (hat w hw)
  have hk' : (Cond.classLink own ik cls).before args s' = true := vx_ot_at hW0 hvm.symm (hgood _ List.mem_cons_self) hk
  have hini' : (Cond.initialized cls).before args s' = true := vx_ot_at hW0 hvm.symm (hgood _ (List.mem_cons_of_mem _ List.mem_cons_self)) hini
  have hU' : vx_Zq Bundle.tN "UNASSIGNED_STACK" Bundle.steD A s' s'.heap := by rw [hhp]; exact vx_Zq.moved hW0.alike (hU.kept hS.2.1)
  have hN' : vx_Zq Bundle.tN "SUPPRESSED_SENTINEL" Bundle.listD A s' s'.heap := by rw [hhp]; exact vx_Zq.moved hW0.alike (hN.kept hS.2.1)
  have h : ∀ w ∈ Bundle.ownAtoms0 own ic cls names, w.before args s' = true := vx_own hat' (vx_isRefq hU'.1) (vx_isRefq hN'.1) hU'.2.word hN'.2.word
  have hown' : s'.vm.findClass own = some m.cls := by rw [hvm]; exact hown
  have hins : (Cond.instantiable cls 6).before args s' = true := h _ (by simp [Bundle.ownAtoms0])
  obtain ⟨vm₁, cX, kX, hfX, hkX, -, -, X₁, st1⟩ := Y.newCold hexec (own := own) (C := cls) (index := ik) (n := 6) hown' hk' hins hini'
    (g := F0 m pc ls rest) rfl (by rw [hb]; exact d0) (Nat.le_refl _) (Nat.le_refl _)
  generalize hT1 : (T.setVm vm₁).pushCell { cls := cX, slots := kX.instanceTypes.map defaultValue, vm := .none } = T1 at X₁ st1
  have hcat : (Value.ref T.heap.size).category = 1 := rfl
  have hcellA : T1.heap[T.heap.size]? = some (freshCell cX kX) := by rw [← hT1]; exact State.heap_pushCell_size _ _
  have d3' : decode c.code (pc + 3) = .ok (.dup, 1) := by rw [hb]; exact d3
  obtain ⟨U, hsteps, hrun, hend, hW, hsame, ce, hce, hO⟩ := X₁.ctorThrow0 hexec htr (own := own) (cls := cls) (names := names) (ic := ic) hown' hcls hnames h (fun x hx => nomatch hx) hfX hkX hcellA (by rw [hhp, hT]; exact Nat.le_refl _)
    (g := { method := m, pc := pc + 4, locals := ls, stack := .ref T.heap.size :: .ref T.heap.size :: rest, locked := none }) rfl hsize rfl rfl (rest := rest) rfl
    (by rw [hb]; exact d4) (by rw [hb]; exact d7) hout hRframes (by simp only [List.map_cons, List.sum_cons, hcat]; omega) hlocks
  obtain ⟨f1, f2⟩ := vx_frame hsame
  rw [hhp] at f1 f2
  have hWs : s.WarmedH U.vm := State.WarmedH.trans hW0 hW
  have hcl : s.vm.findClass cls = some ce.cls := by
    have h9 := hO.cls
    rw [hvm] at h9
    exact h9
  have hall : s.sameButNew ({ U with vm := s.vm } : State) locs mc ms := by
    subst hA
    obtain ⟨e1, e2⟩ := hsame
    rw [State.setFrames_setFrames] at e1
    have h2 : (T.setVm s.vm).sameButNew ({ U with vm := s.vm } : State) [] (0 + 1) (0 + 6) := ⟨e1, e2⟩
    have h3 := X.same.trans h2
    rw [List.append_nil] at h3
    exact h3.mono hc hs
  refine ⟨U, ?_, .threw T.heap.size, hrun, hend, Or.inr ⟨T.heap.size, rfl, cls, ce, locs, hx U hWs.alike f1 (fun q hq => f2 q hq (fun z hz => nomatch hz)), hce, hO.vm, hcl, hWs, hall, hf⟩⟩
  refine st1 _ ?_
  show Steps p.tables e below (T1.setTop { method := m, pc := pc + 3, locals := ls, stack := .ref T.heap.size :: rest, locked := none }) _
  jvm_step X₁.here [X₁.here.top, hexec, d3', Value.category]
  exact hsteps
/-- 'throw new E("text")': new; dup; ldc; invokespecial; athrow -/
theorem vx_throwS {cc : ByteArray} {pc : Nat} (hexec : p.tables.exec = Jvm.exec) (hb : c.code = cc) (hl : l.stackTraces = false) {own cls text : String} {names : List String} {ik is ic mc ms sa : Nat} {A : Nat → Prop}
    (hown : s.vm.findClass own = some m.cls) (hcls : Bundle.fit cls = true) (hnames : ∀ n ∈ names, Bundle.fit n = true)
    (hk : (Cond.classLink own ik cls).before args s = true) (hini : (Cond.initialized cls).before args s = true) (hstr : vk_R own is text sa s) (hat : ∀ w ∈ vx_atS own ic cls names, w.before args s = true)
    (hgood : ∀ w ∈ Cond.classLink own ik cls :: Cond.initialized cls :: vx_atS own ic cls names, vx_ot w = true)
    (hU : vx_Zq Bundle.tN "UNASSIGNED_STACK" Bundle.steD A s s.heap) (hN : vx_Zq Bundle.tN "SUPPRESSED_SENTINEL" Bundle.listD A s s.heap) (hS : va_S A s.heap H locs) (hsize : ls.size = c.maxLocals)
    (d0 : decode cc pc = .ok (.new ik, 3)) (d3 : decode cc (pc + 3) = .ok (.dup, 1)) (d4 : decode cc (pc + 4) = .ok (.ldc is, 2)) (d6 : decode cc (pc + 6) = .ok (.invokespecial ic, 3)) (d9 : decode cc (pc + 9) = .ok (.athrow, 1))
    (hout : ∀ x ∈ c.exceptionTable.toList, covers x (pc + 9) = false)
    (hRframes : names.length + 3 < R.frames) (hRlocals : (rest.map fun v => v.category).sum + (13 * (names.length + 1) + 43) ≤ R.locals) (hRcells : cells + 1 ≤ R.cells) (hRslots : slots + 6 ≤ R.slots) (hlocks : meth.locks = false)
    (hx : ∀ t : State, s.vm.Alike t.vm → H.size ≤ t.heap.size → (∀ q : Nat, q < H.size → t.heap[q]? = H[q]?) → XC cls s t)
    (hf : ∀ z ∈ locs, free z.base) (hc : cells + 1 ≤ mc) (hs : slots + 6 ≤ ms) :
    W p l e R s m args below meth c H locs cells slots (vx_MQ below Qc XC args s mc ms free) (F0 m pc ls rest) := by
  intro T hT X
  have htr : e.platform.stackTraces = false := (show e.platform.stackTraces = l.stackTraces by rw [X.admits.platform]).trans hl
  have Y := vx_rebase X (R' := { frames := R.frames, locals := R.locals, cells := 1, slots := 6 }) (Nat.le_refl _) (Nat.le_refl _) hRcells hRslots
  obtain ⟨s', hA⟩ : ∃ z, z = (T.setVm s.vm).setFrames (.invoking m args :: below) := ⟨_, rfl⟩
  rw [← hA] at Y
  have hvm : s'.vm = s.vm := by rw [hA]; rfl
  have hhp : s'.heap = H := by rw [hA]; exact hT
  have hW0 : s.WarmedH s'.vm := by rw [hvm]; exact State.WarmedH.refl s
  have hat' : ∀ w ∈ vx_atS own ic cls names, w.before args s' = true := fun w hw => vx_ot_at hW0 hvm.symm (hgood w (List.mem_cons_of_mem _ (List.mem_cons_of_mem _ hw))) (hat w hw)
  have hk' : (Cond.classLink own ik cls).before args s' = true := vx_ot_at hW0 hvm.symm (hgood _ List.mem_cons_self) hk
  have hini' : (Cond.initialized cls).before args s' = true := vx_ot_at hW0 hvm.symm (hgood _ (List.mem_cons_of_mem _ List.mem_cons_self)) hini
  have hU' : vx_Zq Bundle.tN "UNASSIGNED_STACK" Bundle.steD A s' s'.heap := by rw [hhp]; exact vx_Zq.moved hW0.alike (hU.kept hS.2.1)
  have hN' : vx_Zq Bundle.tN "SUPPRESSED_SENTINEL" Bundle.listD A s' s'.heap := by rw [hhp]; exact vx_Zq.moved hW0.alike (hN.kept hS.2.1)
  have h : ∀ w ∈ Bundle.ownAtoms own ic cls names, w.before args s' = true := vx_own hat' (vx_isRefq hU'.1) (vx_isRefq hN'.1) hU'.2.word hN'.2.word
  have hown' : s'.vm.findClass own = some m.cls := by rw [hvm]; exact hown
  have hins : (Cond.instantiable cls 6).before args s' = true := h _ (by simp [Bundle.ownAtoms])
  obtain ⟨vm₁, cX, kX, hfX, hkX, -, -, X₁, st1⟩ := Y.newCold hexec (own := own) (C := cls) (index := ik) (n := 6) hown' hk' hins hini'
    (g := F0 m pc ls rest) rfl (by rw [hb]; exact d0) (Nat.le_refl _) (Nat.le_refl _)
  generalize hT1 : (T.setVm vm₁).pushCell { cls := cX, slots := kX.instanceTypes.map defaultValue, vm := .none } = T1 at X₁ st1
  have hcat : (Value.ref T.heap.size).category = 1 := rfl
  have hcellA : T1.heap[T.heap.size]? = some (freshCell cX kX) := by rw [← hT1]; exact State.heap_pushCell_size _ _
  have d3' : decode c.code (pc + 3) = .ok (.dup, 1) := by rw [hb]; exact d3
  have d4' : decode c.code (pc + 4) = .ok (.ldc is, 2) := by rw [hb]; exact d4
  have hstr' : vk_R own is text sa s' := vk_R.warm hW0 hstr
  obtain ⟨U, hsteps, hrun, hend, hW, hsame, ce, hce, hO⟩ := X₁.ctorThrowS hexec htr (own := own) (cls := cls) (names := names) (ic := ic) hown' hcls hnames h (fun x hx => nomatch hx) hfX hkX hcellA (by rw [hhp, hT]; exact Nat.le_refl _) (msg := .ref sa) rfl
    (g := { method := m, pc := pc + 6, locals := ls, stack := .ref sa :: .ref T.heap.size :: .ref T.heap.size :: rest, locked := none }) rfl hsize rfl rfl (rest := rest) rfl
    (by rw [hb]; exact d6) (by rw [hb]; exact d9) hout hRframes (by simp only [List.map_cons, List.sum_cons, hcat]; omega) hlocks
  obtain ⟨f1, f2⟩ := vx_frame hsame
  rw [hhp] at f1 f2
  have hWs : s.WarmedH U.vm := State.WarmedH.trans hW0 hW
  have hcl : s.vm.findClass cls = some ce.cls := by
    have h9 := hO.cls
    rw [hvm] at h9
    exact h9
  have hall : s.sameButNew ({ U with vm := s.vm } : State) locs mc ms := by
    subst hA
    obtain ⟨e1, e2⟩ := hsame
    rw [State.setFrames_setFrames] at e1
    have h2 : (T.setVm s.vm).sameButNew ({ U with vm := s.vm } : State) [] (0 + 1) (0 + 6) := ⟨e1, e2⟩
    have h3 := X.same.trans h2
    rw [List.append_nil] at h3
    exact h3.mono hc hs
  refine ⟨U, ?_, .threw T.heap.size, hrun, hend, Or.inr ⟨T.heap.size, rfl, cls, ce, locs, hx U hWs.alike f1 (fun q hq => f2 q hq (fun z hz => nomatch hz)), hce, hO.vm, hcl, hWs, hall, hf⟩⟩
  refine st1 _ ?_
  show Steps p.tables e below (T1.setTop { method := m, pc := pc + 3, locals := ls, stack := .ref T.heap.size :: rest, locked := none }) _
  jvm_step X₁.here [X₁.here.top, hexec, d3', Value.category]
  exact X₁.ldcString hexec (own := own) (text := text) (index := is) (a := sa) hown' hstr'.1 hstr'.2
    (g := { method := m, pc := pc + 4, locals := ls, stack := .ref T.heap.size :: .ref T.heap.size :: rest, locked := none }) rfl d4' _ hsteps
/-- 'throw new E("text")', the text by a wide index -/
theorem vx_throwSW {cc : ByteArray} {pc : Nat} (hexec : p.tables.exec = Jvm.exec) (hb : c.code = cc) (hl : l.stackTraces = false) {own cls text : String} {names : List String} {ik is ic mc ms sa : Nat} {A : Nat → Prop}
    (hown : s.vm.findClass own = some m.cls) (hcls : Bundle.fit cls = true) (hnames : ∀ n ∈ names, Bundle.fit n = true)
    (hk : (Cond.classLink own ik cls).before args s = true) (hini : (Cond.initialized cls).before args s = true) (hstr : vk_R own is text sa s) (hat : ∀ w ∈ vx_atS own ic cls names, w.before args s = true)
    (hgood : ∀ w ∈ Cond.classLink own ik cls :: Cond.initialized cls :: vx_atS own ic cls names, vx_ot w = true)
    (hU : vx_Zq Bundle.tN "UNASSIGNED_STACK" Bundle.steD A s s.heap) (hN : vx_Zq Bundle.tN "SUPPRESSED_SENTINEL" Bundle.listD A s s.heap) (hS : va_S A s.heap H locs) (hsize : ls.size = c.maxLocals)
    (d0 : decode cc pc = .ok (.new ik, 3)) (d3 : decode cc (pc + 3) = .ok (.dup, 1)) (d4 : decode cc (pc + 4) = .ok (.ldc_w is, 3)) (d7 : decode cc (pc + 7) = .ok (.invokespecial ic, 3)) (d10 : decode cc (pc + 10) = .ok (.athrow, 1))
    (hout : ∀ x ∈ c.exceptionTable.toList, covers x (pc + 10) = false)
    (hRframes : names.length + 3 < R.frames) (hRlocals : (rest.map fun v => v.category).sum + (13 * (names.length + 1) + 43) ≤ R.locals) (hRcells : cells + 1 ≤ R.cells) (hRslots : slots + 6 ≤ R.slots) (hlocks : meth.locks = false)
    (hx : ∀ t : State, s.vm.Alike t.vm → H.size ≤ t.heap.size → (∀ q : Nat, q < H.size → t.heap[q]? = H[q]?) → XC cls s t)
    (hf : ∀ z ∈ locs, free z.base) (hc : cells + 1 ≤ mc) (hs : slots + 6 ≤ ms) :
    W p l e R s m args below meth c H locs cells slots (vx_MQ below Qc XC args s mc ms free) (F0 m pc ls rest) := by
  intro T hT X
  have htr : e.platform.stackTraces = false := (show e.platform.stackTraces = l.stackTraces by rw [X.admits.platform]).trans hl
  have Y := vx_rebase X (R' := { frames := R.frames, locals := R.locals, cells := 1, slots := 6 }) (Nat.le_refl _) (Nat.le_refl _) hRcells hRslots
  obtain ⟨s', hA⟩ : ∃ z, z = (T.setVm s.vm).setFrames (.invoking m args :: below) := ⟨_, rfl⟩
  rw [← hA] at Y
  have hvm : s'.vm = s.vm := by rw [hA]; rfl
  have hhp : s'.heap = H := by rw [hA]; exact hT
  have hW0 : s.WarmedH s'.vm := by rw [hvm]; exact State.WarmedH.refl s
  have hat' : ∀ w ∈ vx_atS own ic cls names, w.before args s' = true := fun w hw => vx_ot_at hW0 hvm.symm (hgood w (List.mem_cons_of_mem _ (List.mem_cons_of_mem _ hw))) (hat w hw)
  have hk' : (Cond.classLink own ik cls).before args s' = true := vx_ot_at hW0 hvm.symm (hgood _ List.mem_cons_self) hk
  have hini' : (Cond.initialized cls).before args s' = true := vx_ot_at hW0 hvm.symm (hgood _ (List.mem_cons_of_mem _ List.mem_cons_self)) hini
  have hU' : vx_Zq Bundle.tN "UNASSIGNED_STACK" Bundle.steD A s' s'.heap := by rw [hhp]; exact vx_Zq.moved hW0.alike (hU.kept hS.2.1)
  have hN' : vx_Zq Bundle.tN "SUPPRESSED_SENTINEL" Bundle.listD A s' s'.heap := by rw [hhp]; exact vx_Zq.moved hW0.alike (hN.kept hS.2.1)
  have h : ∀ w ∈ Bundle.ownAtoms own ic cls names, w.before args s' = true := vx_own hat' (vx_isRefq hU'.1) (vx_isRefq hN'.1) hU'.2.word hN'.2.word
  have hown' : s'.vm.findClass own = some m.cls := by rw [hvm]; exact hown
  have hins : (Cond.instantiable cls 6).before args s' = true := h _ (by simp [Bundle.ownAtoms])
  obtain ⟨vm₁, cX, kX, hfX, hkX, -, -, X₁, st1⟩ := Y.newCold hexec (own := own) (C := cls) (index := ik) (n := 6) hown' hk' hins hini'
    (g := F0 m pc ls rest) rfl (by rw [hb]; exact d0) (Nat.le_refl _) (Nat.le_refl _)
  generalize hT1 : (T.setVm vm₁).pushCell { cls := cX, slots := kX.instanceTypes.map defaultValue, vm := .none } = T1 at X₁ st1
  have hcat : (Value.ref T.heap.size).category = 1 := rfl
  have hcellA : T1.heap[T.heap.size]? = some (freshCell cX kX) := by rw [← hT1]; exact State.heap_pushCell_size _ _
  have d3' : decode c.code (pc + 3) = .ok (.dup, 1) := by rw [hb]; exact d3
  have d4' : decode c.code (pc + 4) = .ok (.ldc_w is, 3) := by rw [hb]; exact d4
  have hstr' : vk_R own is text sa s' := vk_R.warm hW0 hstr
  obtain ⟨U, hsteps, hrun, hend, hW, hsame, ce, hce, hO⟩ := X₁.ctorThrowS hexec htr (own := own) (cls := cls) (names := names) (ic := ic) hown' hcls hnames h (fun x hx => nomatch hx) hfX hkX hcellA (by rw [hhp, hT]; exact Nat.le_refl _) (msg := .ref sa) rfl
    (g := { method := m, pc := pc + 7, locals := ls, stack := .ref sa :: .ref T.heap.size :: .ref T.heap.size :: rest, locked := none }) rfl hsize rfl rfl (rest := rest) rfl
    (by rw [hb]; exact d7) (by rw [hb]; exact d10) hout hRframes (by simp only [List.map_cons, List.sum_cons, hcat]; omega) hlocks
  obtain ⟨f1, f2⟩ := vx_frame hsame
  rw [hhp] at f1 f2
  have hWs : s.WarmedH U.vm := State.WarmedH.trans hW0 hW
  have hcl : s.vm.findClass cls = some ce.cls := by
    have h9 := hO.cls
    rw [hvm] at h9
    exact h9
  have hall : s.sameButNew ({ U with vm := s.vm } : State) locs mc ms := by
    subst hA
    obtain ⟨e1, e2⟩ := hsame
    rw [State.setFrames_setFrames] at e1
    have h2 : (T.setVm s.vm).sameButNew ({ U with vm := s.vm } : State) [] (0 + 1) (0 + 6) := ⟨e1, e2⟩
    have h3 := X.same.trans h2
    rw [List.append_nil] at h3
    exact h3.mono hc hs
  refine ⟨U, ?_, .threw T.heap.size, hrun, hend, Or.inr ⟨T.heap.size, rfl, cls, ce, locs, hx U hWs.alike f1 (fun q hq => f2 q hq (fun z hz => nomatch hz)), hce, hO.vm, hcl, hWs, hall, hf⟩⟩
  refine st1 _ ?_
  show Steps p.tables e below (T1.setTop { method := m, pc := pc + 3, locals := ls, stack := .ref T.heap.size :: rest, locked := none }) _
  jvm_step X₁.here [X₁.here.top, hexec, d3', Value.category]
  exact X₁.ldcStringW hexec (own := own) (text := text) (index := is) (a := sa) hown' hstr'.1 hstr'.2
    (g := { method := m, pc := pc + 4, locals := ls, stack := .ref T.heap.size :: .ref T.heap.size :: rest, locked := none }) rfl d4' _ hsteps
end Ends
section Bodies
variable {l : Launch}
theorem vx_ofW {y : MethodName} {ws ws' : List Cond} {rm : Room} {Pc : Array Value → State → Prop} {Qc : Array Value → State → Outcome → State → Prop} {XC : String → State → State → Prop} {mc ms : Nat} {free : Addr → Prop} {cc : ByteArray} {maxL : Nat} {ret : Option FieldType}
    (hy : plainName y.cls = true) (hw : ws = Cond.code y cc maxL ret :: ws')
    (body : ∀ p e s m args below meth c s₁, BodyLoose p l y (headSpec ws rm) cc maxL ret e s m args below meth c s₁ → c.maxLocals = maxL → (∀ x ∈ c.exceptionTable.toList, False) → Pc args s →
      W p l e (headSpec ws rm).room s m args below meth c s.heap [] 0 0 (vx_MQ below Qc XC args s mc ms free) (entryFrame m args maxL)) : vx_Met l y ws rm Pc Qc XC mc ms free := by
  refine MetFree.of_bodyS (code := cc) (maxLocals := maxL) (ret := ret) hy ?_ ?_
  · intro args s m h hn
    obtain ⟨meth, c, h1, h2, h3, h4, h5, h6, -, -⟩ := Cond.code_spec hn (atoms_spec (ws := ws) h _ (by rw [hw]; exact List.mem_cons_self))
    exact ⟨meth, c, h1, h2, h3, h4, h5, h6⟩
  · intro p e s m args below meth c s₁ B hml hP _
    have hh0 : s₁.heap = s.heap := by rw [B.state]; rfl
    have ht : ∀ x ∈ c.exceptionTable.toList, False := by
      obtain ⟨meth9, c9, h1, h2, -, -, -, -, h7, -⟩ := Cond.code_spec B.named (atoms_spec (ws := ws) B.pre _ (by rw [hw]; exact List.mem_cons_self))
      cases Option.some.inj (h1.symm.trans B.method)
      cases Option.some.inj (h2.symm.trans (Stand.of_body B).code)
      intro x hx
      rw [Array.isEmpty_iff.mp h7] at hx
      cases hx
    obtain ⟨t, a1, o, b1, b2, b3⟩ := body p e s m args below meth c s₁ B hml ht hP s₁ hh0 (Stand.of_body B)
    exact ⟨t, o, a1, b1, b2, b3⟩
/-- the table of a body with handlers -/
theorem vx_table {p : Program} {x y : MethodName} {S : Spec} {cc bytes : ByteArray} {maxL maxL' : Nat} {ret ret' : Option FieldType} {e : Env} {s s₁ : State} {m : MethodId} {args : Array Value} {below : List Frame} {meth : Method} {c : Code} {hh : List (Nat × Nat × Nat × Nat)}
    (B : BodyLoose p l y S cc maxL ret e s m args below meth c s₁) (h : (Cond.codeWith y bytes maxL' ret' hh).before args s = true) : c.exceptionTable.toList = tableOf hh := by
  obtain ⟨m9, meth9, c9, hn9, h1, h2, -, -, h6, -⟩ := Cond.codeWith_spec h
  cases Option.some.inj (hn9.symm.trans B.named)
  cases Option.some.inj (h1.symm.trans B.method)
  cases Option.some.inj (h2.symm.trans (Stand.of_body B).code)
  rw [← h6, table_eq]
end Bodies
end VXA
/-! ===== END ===== -/
/-! ===== BEGIN a static call of a method with an exception table ===== -/
section VXS
variable {p : Program} {l : Launch} {e : Env} {R : Room} {s : State} {m : MethodId} {args : Array Value} {below : List Frame} {meth : Method} {c : Code} {T : State} {H : Heap} {locs : List Loc} {cells slots : Nat}
abbrev vx_CSW (R : Room) (s : State) (args : Array Value) (own : String) (index : Nat) (y : MethodName) (bytes : ByteArray) (maxL : Nat) (ret : Option FieldType) (hh : List (Nat × Nat × Nat × Nat)) (ws : List Cond) (rm : Room) (mc ms n : Nat) : Prop :=
  (rm.cells = mc ∧ rm.slots = ms ∧ rm.frames + 1 ≤ R.frames ∧ 8 + (maxL + 11) + rm.locals ≤ R.locals ∧ (∀ w ∈ ws, ∀ (a' : Array Value) (U : State), s.WarmedH U.vm → w.before a' U = true) ∧ Cond.codeWith y bytes maxL ret hh ∈ ws) ∧
  (Cond.codeWith y bytes maxL ret hh).before args s = true ∧ (Cond.initialized y.cls).before args s = true ∧ (y.cls ≠ "java/lang/invoke/MethodHandle" ∧ y.cls ≠ "java/lang/invoke/VarHandle") ∧
  (∀ sig, parseMethodDescriptor y.desc = some sig → n = sig.parameters.length) ∧ (Cond.methodLink own index y).before args s = true ∧ (Cond.static y).before args s = true
theorem vx_cwSW {own : String} {index maxL mc ms : Nat} {y : MethodName} {bytes : ByteArray} {ret : Option FieldType} {hh : List (Nat × Nat × Nat × Nat)} {Ts ws ws' : List Cond} {rm : Room} (n : Nat) (ht : ∀ w ∈ Ts, w.before args s = true) (hT : GoodIn Ts (va_wsS own index y ws)) (hw : ws = Cond.codeWith y bytes maxL ret hh :: ws') (hrc : rm.cells = mc) (hrs : rm.slots = ms)
    (hd : y.cls ≠ "java/lang/invoke/MethodHandle" ∧ y.cls ≠ "java/lang/invoke/VarHandle" ∧ (parseMethodDescriptor y.desc).map (fun d => d.parameters.length) = some n) (hR : rm.frames + 1 ≤ R.frames ∧ 8 + (maxL + 11) + rm.locals ≤ R.locals) :
    vx_CSW R s args own index y bytes maxL ret hh ws rm mc ms n := by
  have ok : ∀ w ∈ va_wsS own index y ws, w.before args s = true := fun w h => ht w (hT w h).1
  have hG : GoodIn Ts ws := fun w h => hT w (by unfold va_wsS; exact List.mem_append_right _ h)
  have hc : Cond.codeWith y bytes maxL ret hh ∈ ws := by rw [hw]; exact List.mem_cons_self
  refine ⟨⟨hrc, hrs, hR.1, hR.2, pay_in ht hG, hc⟩, ht _ (hG _ hc).1, ok _ (by simp [va_wsS]), ⟨hd.1, hd.2.1⟩, fun sig h => ?_, ok _ (by simp [va_wsS]), ok _ (by simp [va_wsS])⟩
  have h2 := hd.2.2
  rw [h] at h2
  exact (Option.some.inj h2).symm
theorem vx_callSW (X : Stand p l e R s m args below meth c T locs cells slots) (hexec : p.tables.exec = Jvm.exec) {own : String} {index : Nat} {y : MethodName} {bytes : ByteArray} {maxL : Nat} {ret : Option FieldType} {hh : List (Nat × Nat × Nat × Nat)}
    (hown : s.vm.findClass own = some m.cls) (hlink : (Cond.methodLink own index y).before args s = true) (hstat : (Cond.static y).before args s = true) (hinit : (Cond.initialized y.cls).before args s = true)
    (hcode : (Cond.codeWith y bytes maxL ret hh).before args s = true) (hy : y.cls ≠ "java/lang/invoke/MethodHandle" ∧ y.cls ≠ "java/lang/invoke/VarHandle")
    {W9 : Nat} {Pre : Pt → Array Value → Prop} {Post : Pt → Array Value → Option Value → Pt → Prop} (hK : Back l R p e below s args y 3 W9 Pre Post)
    {g : JFrame} (hg : g.method = m) (hsize : g.locals.size = c.maxLocals) {argsL rest : List Value} (hlen : ∀ sig, parseMethodDescriptor y.desc = some sig → argsL.length = sig.parameters.length)
    (hstack : g.stack = argsL.reverse ++ rest) (hW : 2 * g.monitorRoom + (rest.map fun v => v.category).sum ≤ W9) (hdg : decode c.code g.pc = .ok (.invokestatic index, 3))
    (hpre : ∀ vm₁, s.WarmedH vm₁ → Pre ⟨T.setVm vm₁, locs, cells, slots⟩ argsL.toArray) :
    ∃ (v : Option Value) (vm₁ : Vm) (B : Pt), s.WarmedH vm₁ ∧ Stand p l e R s m args below meth c B.U B.locs B.cells B.slots ∧ Post ⟨T.setVm vm₁, locs, cells, slots⟩ argsL.toArray v B ∧
      ∀ target, Steps p.tables e below (B.U.setTop { g with pc := g.pc + 3, stack := v.toList ++ rest }) target → Steps p.tables e below (T.setTop g) target := by
  obtain ⟨mk, methM, cM, hnamed, hmethM, -, -, -, -, -, -, hsigM⟩ := Cond.codeWith_spec hcode
  have hstatic : methM.isStatic = true := Cond.static_spec hnamed hmethM hstat
  obtain ⟨kP, hkP, -⟩ := className_of_methodNamed hnamed
  have hinitP : kP.init = .initialized := Cond.initialized_spec (findClass_of_methodNamed hnamed) hkP hinit
  obtain ⟨vm₁, X₁, hstep₁⟩ := X.invokestatic hexec hown hlink hnamed hmethM hstatic hkP hinitP hy (g := g) hg (argsL := argsL) (rest := rest) (hlen _ hsigM) hstack hdg
  obtain ⟨v, B, X', hpost, hsteps⟩ := hK m meth c ⟨T.setVm vm₁, locs, cells, slots⟩ { g with stack := rest } (.invokestatic index) mk argsL.toArray X₁ hg hsize hdg hW (X₁.named hnamed) (hpre vm₁ X₁.warmed)
  exact ⟨v, vm₁, B, X₁.warmed, X', hpost, fun target h => hstep₁ _ fun acts => by rw [doInvoke_state]; exact hsteps.trans h⟩
theorem vx_runSW {y : MethodName} {bytes cc : ByteArray} {maxL nL mc ms n index : Nat} {ret : Option FieldType} {hh : List (Nat × Nat × Nat × Nat)} {ws : List Cond} {rm : Room} {Pc : Array Value → State → Prop} {Qc : Array Value → State → Outcome → State → Prop} {free : Addr → Prop} {Ts : List Cond} {own : String} {As rest : List Value} {g : JFrame}
    (S : CallFix p m c cc nL s args Ts own) (hM : Met l y ws rm Pc Qc mc ms free) (cw : vx_CSW R s args own index y bytes maxL ret hh ws rm mc ms n) (hp : PreS s H Pc As)
    (hg : g.method = m) (hn : As.length = n) (hsize : g.locals.size = nL) (hstack : g.stack = As.reverse ++ rest) (hW : 2 * g.monitorRoom + (rest.map fun v => v.category).sum ≤ 8) (hdg : decode cc g.pc = .ok (.invokestatic index, 3)) (hf : cells + mc ≤ R.cells ∧ slots + ms ≤ R.slots) :
    va_Run p l e R s m args below meth c H locs cells slots mc ms g rest (Qc As.toArray) (free) := by
  obtain ⟨⟨hrc, hrs, hfr, hlo, hws, hcw⟩, hcode, hini, hy, hlen, hl, hstt⟩ := cw
  have hK : Back l R p e below s args y 3 8 (PreOf R mc ms Pc) (PostOf Qc mc ms free) := va_backW (hh := hh) (bytes := bytes) (maxL := maxL) (ret := ret) hM hp.1 hrc hrs hfr hlo hws hcw (fun a' U hW => word_at hW (Or.inl (by first | rfl | simp [Cond.onTables, Cond.keeps, Cond.steady])) hini)
  obtain ⟨hx, hb, hml, ho, -⟩ := S
  intro T hT X
  obtain ⟨v, vm₁, ⟨U', l2, c2, s2⟩, hW₁, X', ⟨g', mk, t, L, e1, e2, hq, h1, hL, h2, h3⟩, st⟩ := vx_callSW X hx (hh := hh) (bytes := bytes) (maxL := maxL) (ret := ret) ho hl hstt hini hcode hy hK hg (hsize.trans hml.symm) (argsL := As) (rest := rest) (fun sig h => hn.trans (hlen sig h)) hstack hW (by rw [hb]; exact hdg)
    (fun vm₁ hW₁ => ⟨hf.1, hf.2, hp.2 (T.setVm vm₁) hT hW₁⟩)
  dsimp only [Pt.U, Pt.locs, Pt.cells, Pt.slots] at X' e1 e2 h1 h2 h3 st
  subst h1; subst h2; subst h3
  exact ⟨v, (T.setVm vm₁).calling g' mk As.toArray, t, U', L, hT, X', hL, e1, e2, hq, st⟩
/-- not caught here, past rows that name other classes: it goes on to the caller -/
theorem vx_outP {p : Program} {l : Launch} {e : Env} {R : Room} {s : State} {m : MethodId} {args : Array Value} {below : List Frame} {meth : Method} {c : Code} {H : Heap} {locs : List Loc} {cells slots : Nat} {free : Addr → Prop} {ls : Array Slot} {rest : List Value} {Qc : Array Value → State → Outcome → State → Prop} {XC : String → State → State → Prop}
    {pc : Nat} {own E : String} {ce : Cell} {q : Addr} {mc ms : Nat} (hown : s.vm.findClass own = some m.cls) (hlocks : meth.locks = false)
    (hpass : ∀ z ∈ c.exceptionTable.toList, covers z pc = false ∨ (z.catchType ≠ 0 ∧ ∃ nm : String, (Cond.classLink own z.catchType nm).before args s = true ∧ va_Nc E nm s)) (hcell : H[q]? = some ce) (hv : ce.vm = .none) (hcl : s.vm.findClass E = some ce.cls)
    (hx : ∀ t : State, t.heap = H → s.vm.Alike t.vm → XC E s t) (hf : ∀ z ∈ locs, free z.base) (hc : cells ≤ mc) (hs : slots ≤ ms) :
    vx_W p l e R s m args below meth c H locs cells slots (vx_MQ below Qc XC args s mc ms free) (F0 m pc ls rest) q := by
  intro T hT X
  have hpl : e.platform.magicAccessors = ({} : Platform).magicAccessors := by rw [X.admits.platform]
  obtain ⟨vm', hW', X', st⟩ := X.outThrough hlocks q (g := F0 m pc ls rest) rfl rfl rfl (cell := ce) (by rw [hT]; exact hcell) (by rw [hv]; rfl)
    (by obtain ⟨k9, h9, -⟩ := Vm.findClass_spec hcl; exact ⟨k9, h9⟩) (fun z hz => by
      rcases hpass z hz with h | ⟨hz0, nm, hl1, hn1⟩
      · exact Or.inl h
      · obtain ⟨c6, hc6, hcl6⟩ := Cond.classLink_spec hown hl1 e.platform hpl
        obtain ⟨a8, b8, h1, h2, h3⟩ := hn1
        cases Option.some.inj (h1.symm.trans hcl)
        cases Option.some.inj (h2.symm.trans hc6)
        exact Or.inr ⟨hz0, _, hcl6, h3⟩)
  obtain ⟨g₀, hfr⟩ := X'.frames_eq
  have hcell9 : ((T.setVm vm').setFrames (.throwing q :: below)).heap[q]? = some ce := by
    show T.heap[q]? = some ce
    rw [hT]; exact hcell
  have hend : Ended ((T.setVm vm').setFrames (.throwing q :: below)) below (.threw q) := State.frames_setFrames _ (State.cur_lt_of_frames hfr)
  refine ⟨(T.setVm vm').setFrames (.throwing q :: below), ?_, .threw q, X'.here.running, hend, Or.inr ⟨q, rfl, E, ce, locs, hx _ hT (X'.ends _).1.alike, hcell9, hv, hcl, (X'.ends _).1, (X'.ends _).2.mono hc hs, hf⟩⟩
  rw [X.pushThrowing_eq]
  exact st
/-- a thing of a world lies in the heap -/
theorem vx_lt {D : va_G} {cl : List vw_C} {ws : va_W} {H1 : Heap} (h : va_P D cl ws H1) {k : Nat} {q : Nat × va_E} (hk : ws[k]? = some q) : q.1 < H1.size := (h k q hk).lt
end VXS
/-! ===== END ===== -/
/-! ===== BEGIN methods with a table of their own: called by a name, returning or throwing ===== -/
section VXH
/-! vx_backW, vx_callVX, vx_callSX, vx_callVW, vx_runVW, vx_runVX, vx_runSX, vx_ofWH follow the same proofs as their sisters above (Free/Laws.lean, Shelf42/LK1.lean); vx_outP calls Shelf42/NT130.lean (outThrough). -/
section
variable {l : Launch} {R : Room} {p : Program} {e : Env} {below : List Frame} {s : State} {sargs : Array Value} {y : MethodName} {len W9 : Nat}
theorem vx_backW {ws : List Cond} {rm : Room} {Pc : Array Value → State → Prop} {Qc : Array Value → State → Outcome → State → Prop} {XC : String → State → State → Prop} {mc ms : Nat} {free : Addr → Prop} {bytes : ByteArray} {maxL : Nat} {ret : Option FieldType} {hh : List (Nat × Nat × Nat × Nat)}
    (hM : vx_Met l y ws rm Pc Qc XC mc ms free) (hblind : FrameBlind Pc) (hrc : rm.cells = mc) (hrs : rm.slots = ms)
    (hframes : rm.frames + 1 ≤ R.frames) (hlocals : W9 + (maxL + 11) + rm.locals ≤ R.locals)
    (hws : ∀ w ∈ ws, ∀ a' U, s.WarmedH U.vm → w.before a' U = true) (hcode : Cond.codeWith y bytes maxL ret hh ∈ ws) (hinit : ∀ a' U, s.WarmedH U.vm → (Cond.initialized y.cls).before a' U = true) :
    vx_Back l R p e below s sargs y len W9 (PreOf R mc ms Pc) (PostOf Qc mc ms free) (vx_Post XC mc ms free) := by
  intro m meth c A g ig mk a X hg hsize hdg hW hn hp
  have h1 : (headSpec ws rm).pre.before a A.U = true := atoms_intro fun w hw => hws w hw _ _ X.warmed
  have h2 : (Cond.codeWith y bytes maxL ret hh).before a A.U = true := hws _ hcode _ _ X.warmed
  have h3 : (Cond.initialized y.cls).before a A.U = true := hinit _ _ X.warmed
  have h4 : A.cells + (headSpec ws rm).room.cells ≤ R.cells := by rw [show (headSpec ws rm).room.cells = mc from hrc]; exact hp.1
  have h5 : A.slots + (headSpec ws rm).room.slots ≤ R.slots := by rw [show (headSpec ws rm).room.slots = ms from hrs]; exact hp.2.1
  have hPc : Pc a (A.U.calling g mk a) := hblind _ _ _ _ hp.2.2
  obtain ⟨U, Ls, c0, s0⟩ := A
  dsimp only [Pt.U, Pt.locs, Pt.cells, Pt.slots] at h1 h2 h3 h4 h5 X hn hPc ⊢
  obtain ⟨m9, methY, cY, hn9, hmY, hcY, -, hlY, -⟩ := Cond.codeWith_spec h2
  cases Option.some.inj (hn9.symm.trans hn)
  obtain ⟨kY, hkY, -⟩ := className_of_methodNamed hn
  have hinitY : kY.init = .initialized := Cond.initialized_spec (findClass_of_methodNamed hn) hkY h3
  have h : At U g.method c below := by rw [hg]; exact X.here
  have hlocals9 : W9 + (maxL + 11) + (headSpec ws rm).room.locals ≤ R.locals := hlocals
  have happ : (headSpec ws rm).appliesLoose y e.platform (U.calling g mk a) = true :=
    Spec.appliesLoose_calling (g := g) h hdg hn hkY hinitY
      (X.room_calling (g := g) (R' := (headSpec ws rm).room) hsize hmY hcY hframes (by rw [hlY]; omega) h4 h5) h1
  obtain ⟨mid, hmid⟩ := h.above
  have hfr : (U.setTop g).frames = (.java g :: mid) ++ below := by rw [State.frames_setTop' g h.top, hmid]; rfl
  obtain ⟨o, s₂, hsteps, -, hend, hq⟩ := Steps.callFree hM p X.admits X.cas X.clock (acts := []) hfr happ hPc trivial
  have hq' : vx_Q Qc XC mc ms free a (U.calling g mk a) o s₂ := hq
  rw [State.frames_setTop' g h.top] at hend
  obtain ⟨g₀, hg0⟩ := Option.isSome_iff_exists.mp h.top
  obtain ⟨r, hr⟩ := State.topJava?_eq_some.mp hg0
  have hr' : (({ U with heap := s₂.heap, slotsUsed := s₂.slotsUsed } : State).setVm s₂.vm).frames = .java g₀ :: r := hr
  rcases hq' with ⟨hqc, L, hfe, hL⟩ | ⟨q, rfl, E, ce, L, hx, hce, hcv, hcl, hW₂, hsm, hL⟩
  · obtain ⟨⟨v, rfl⟩, hW₂, e2, q2, q3, q4, q5, q6⟩ := id hfe
    have e3 : s₂ = ({ (U.calling g mk a).setFrames s₂.frames with heap := s₂.heap, slotsUsed := s₂.slotsUsed } : State).setVm s₂.vm := by
      have : s₂ = ({ s₂ with vm := (U.calling g mk a).vm } : State).setVm s₂.vm := rfl
      rw [e2] at this
      exact this
    obtain ⟨c₂, i₂, len₂, hc₂, hd₂, hf₂⟩ := hend
    have hW' : U.WarmedH s₂.vm := hW₂
    have hcc : c₂ = c := by
      have h1 : s₂.code? g.method = U.code? g.method := by
        rw [State.code?_eq, State.code?_eq, hW'.alike.method?]
      exact Option.some.inj (hc₂.symm.trans (h1.trans h.code))
    subst hcc
    have hlen : len₂ = len := by rw [hdg] at hd₂; cases hd₂; rfl
    subst hlen
    have hs₂ : s₂ = (({ U with heap := s₂.heap, slotsUsed := s₂.slotsUsed } : State).setVm s₂.vm).setTop { g with pc := g.pc + len₂, stack := v.toList ++ g.stack } := by
      refine e3.trans ?_
      rw [hf₂, State.calling_eq h.top, State.setFrames_setFrames, State.setTop_of_frames _ hr', hr]
      rfl
    have hsame : U.sameButNew ({ U with heap := s₂.heap, slotsUsed := s₂.slotsUsed } : State) L mc ms := by
      refine ⟨?_, q2, q3, q4, q5, q6⟩
      obtain ⟨t, ht, -⟩ := State.frames_cons hr
      show ({ U with heap := s₂.heap, slotsUsed := s₂.slotsUsed } : State) = { U.setFrames U.frames with heap := s₂.heap, slotsUsed := s₂.slotsUsed }
      rw [State.setFrames_self ht]
    subst hg
    refine Or.inl ⟨v, ⟨(({ U with heap := s₂.heap, slotsUsed := s₂.slotsUsed } : State).setVm s₂.vm), Ls ++ L, c0 + mc, s0 + ms⟩,
      ⟨X.admits, X.cas, X.clock, X.frames, X.room, X.hears, X.method, X.code, (X.here.setHeapUsed s₂.heap s₂.slotsUsed).setVm hW'.alike, X.tail, State.WarmedH.trans X.warmed hW', X.limits, X.bytes, X.same.trans (hsame.setVm s.vm)⟩,
      ⟨g, mk, s₂, L, rfl, rfl, hqc, rfl, hL, rfl, rfl⟩, ?_⟩
    show Steps p.tables e below _ ((({ U with heap := s₂.heap, slotsUsed := s₂.slotsUsed } : State).setVm s₂.vm).setTop { g with pc := g.pc + len₂, stack := v.toList ++ g.stack })
    rw [← hs₂]
    exact hsteps
  · obtain ⟨e2, q2, q3, q4, q5, q6⟩ := id hsm
    have e3 : s₂ = ({ (U.calling g mk a).setFrames s₂.frames with heap := s₂.heap, slotsUsed := s₂.slotsUsed } : State).setVm s₂.vm := by
      have : s₂ = ({ s₂ with vm := (U.calling g mk a).vm } : State).setVm s₂.vm := rfl
      rw [e2] at this
      exact this
    have hf₂ : s₂.frames = .throwing q :: .java g :: U.frames.tail := hend
    have hW' : U.WarmedH s₂.vm := hW₂
    have hs₂ : s₂ = ((({ U with heap := s₂.heap, slotsUsed := s₂.slotsUsed } : State).setVm s₂.vm).setTop g).pushFrame (.throwing q) := by
      refine e3.trans ?_
      rw [hf₂, State.calling_eq h.top, State.setFrames_setFrames, State.pushFrame, State.frames_setTop _ hr', State.setTop_of_frames _ hr', State.setFrames_setFrames, hr]
      rfl
    have hsame : U.sameButNew ({ U with heap := s₂.heap, slotsUsed := s₂.slotsUsed } : State) L mc ms := by
      refine ⟨?_, q2, q3, q4, q5, q6⟩
      obtain ⟨t, ht, -⟩ := State.frames_cons hr
      show ({ U with heap := s₂.heap, slotsUsed := s₂.slotsUsed } : State) = { U.setFrames U.frames with heap := s₂.heap, slotsUsed := s₂.slotsUsed }
      rw [State.setFrames_self ht]
    subst hg
    refine Or.inr ⟨q, ⟨(({ U with heap := s₂.heap, slotsUsed := s₂.slotsUsed } : State).setVm s₂.vm), Ls ++ L, c0 + mc, s0 + ms⟩,
      ⟨X.admits, X.cas, X.clock, X.frames, X.room, X.hears, X.method, X.code, (X.here.setHeapUsed s₂.heap s₂.slotsUsed).setVm hW'.alike, X.tail, State.WarmedH.trans X.warmed hW', X.limits, X.bytes, X.same.trans (hsame.setVm s.vm)⟩,
      ⟨g, mk, s₂, L, E, ce, rfl, rfl, hx, hce, hcv, hcl, rfl, hL, rfl, rfl⟩, ?_⟩
    show Steps p.tables e below _ (((({ U with heap := s₂.heap, slotsUsed := s₂.slotsUsed } : State).setVm s₂.vm).setTop g).pushFrame (.throwing q))
    rw [← hs₂]
    exact hsteps
end
variable {p : Program} {l : Launch} {e : Env} {R : Room} {s : State} {m : MethodId} {args : Array Value} {below : List Frame} {meth : Method} {c : Code} {T : State} {H : Heap} {locs : List Loc} {cells slots : Nat}
theorem vx_callVX (X : Stand p l e R s m args below meth c T locs cells slots) (hexec : p.tables.exec = Jvm.exec) {own C : String} {index : Nat} {y : MethodName} {bytes : ByteArray} {maxL : Nat} {ret : Option FieldType} {hh : List (Nat × Nat × Nat × Nat)}
    (hown : s.vm.findClass own = some m.cls) (hlink : (Cond.methodLink own index y).before args s = true) (hinst : (Cond.instanceMethod y).before args s = true) (hsel : (Cond.selects C y y).before args s = true)
    (hcode : (Cond.codeWith y bytes maxL ret hh).before args s = true) (hy : y.cls ≠ "java/lang/invoke/MethodHandle" ∧ y.cls ≠ "java/lang/invoke/VarHandle")
    {W9 : Nat} {Pre : Pt → Array Value → Prop} {Post : Pt → Array Value → Option Value → Pt → Prop} {PostX : Pt → Array Value → Addr → Pt → Prop} (hK : vx_Back l R p e below s args y 3 W9 Pre Post PostX)
    {b : Addr} {cellB : Cell} (hcell : T.heap[b]? = some cellB) (hobj : cellB.vm.isStatics = false) (hcls : s.vm.findClass C = some cellB.cls)
    {g : JFrame} (hg : g.method = m) (hsize : g.locals.size = c.maxLocals) {argsL rest : List Value} (hlen : ∀ sig, parseMethodDescriptor y.desc = some sig → argsL.length = sig.parameters.length)
    (hstack : g.stack = argsL.reverse ++ .ref b :: rest) (hW : 2 * g.monitorRoom + (rest.map fun v => v.category).sum ≤ W9) (hdg : decode c.code g.pc = .ok (.invokevirtual index, 3))
    (hpre : ∀ vm₁, s.WarmedH vm₁ → Pre ⟨T.setVm vm₁, locs, cells, slots⟩ (Value.ref b :: argsL).toArray) :
    (∃ (v : Option Value) (vm₁ : Vm) (B : Pt), s.WarmedH vm₁ ∧ Stand p l e R s m args below meth c B.U B.locs B.cells B.slots ∧ Post ⟨T.setVm vm₁, locs, cells, slots⟩ (Value.ref b :: argsL).toArray v B ∧
      ∀ target, Steps p.tables e below (B.U.setTop { g with pc := g.pc + 3, stack := v.toList ++ rest }) target → Steps p.tables e below (T.setTop g) target) ∨
    (∃ (q : Addr) (vm₁ : Vm) (B : Pt), s.WarmedH vm₁ ∧ Stand p l e R s m args below meth c B.U B.locs B.cells B.slots ∧ PostX ⟨T.setVm vm₁, locs, cells, slots⟩ (Value.ref b :: argsL).toArray q B ∧
      Steps p.tables e below (T.setTop g) ((B.U.setTop { g with stack := rest }).pushFrame (.throwing q))) := by
  obtain ⟨mk, methM, hnamed, hmethM, hstM, habM⟩ := Cond.instanceMethod_spec hinst
  obtain ⟨m8, methM', cM, hn8, hmethM', -, -, -, -, -, -, hsigM⟩ := Cond.codeWith_spec hcode
  cases Option.some.inj (hn8.symm.trans hnamed)
  cases hmethM.symm.trans hmethM'
  obtain ⟨c2, r2, m2, q1, q2, q3, q4, kP, hkP, hkPi⟩ := Cond.selects_spec hsel
  cases hcls.symm.trans q1
  cases (State.methodFound?_of_named hnamed hy).symm.trans q2
  cases hnamed.symm.trans q3
  have hselP : selectMethod e.platform s.vm cellB.cls mk = .method mk := by rw [Launch.admits_selectMethod X.admits]; exact q4
  obtain ⟨vm₁, X₁, hstep₁⟩ := X.invokevirtual hexec hown hlink hnamed hmethM hstM hkP hkPi hy (a := b) (cell := cellB) hcell
    (fun z h => by rw [h] at hobj; cases hobj) hselP hmethM habM hkP hkPi (g := g) hg (argsL := argsL) (rest := rest) (hlen _ hsigM) hstack hdg
  rcases hK m meth c ⟨T.setVm vm₁, locs, cells, slots⟩ { g with stack := rest } (.invokevirtual index) mk (Value.ref b :: argsL).toArray X₁ hg hsize hdg hW (X₁.named hnamed) (hpre vm₁ X₁.warmed) with ⟨v, B, X', hpost, hsteps⟩ | ⟨q, B, X', hpost, hsteps⟩
  · exact Or.inl ⟨v, vm₁, B, X₁.warmed, X', hpost, fun target h => hstep₁ _ fun acts => by rw [doInvoke_state]; exact hsteps.trans h⟩
  · exact Or.inr ⟨q, vm₁, B, X₁.warmed, X', hpost, hstep₁ _ fun acts => by rw [doInvoke_state]; exact hsteps⟩
theorem vx_callSX (X : Stand p l e R s m args below meth c T locs cells slots) (hexec : p.tables.exec = Jvm.exec) {own : String} {index : Nat} {y : MethodName} {bytes : ByteArray} {maxL : Nat} {ret : Option FieldType} {hh : List (Nat × Nat × Nat × Nat)}
    (hown : s.vm.findClass own = some m.cls) (hlink : (Cond.methodLink own index y).before args s = true) (hstat : (Cond.static y).before args s = true) (hinit : (Cond.initialized y.cls).before args s = true)
    (hcode : (Cond.codeWith y bytes maxL ret hh).before args s = true) (hy : y.cls ≠ "java/lang/invoke/MethodHandle" ∧ y.cls ≠ "java/lang/invoke/VarHandle")
    {W9 : Nat} {Pre : Pt → Array Value → Prop} {Post : Pt → Array Value → Option Value → Pt → Prop} {PostX : Pt → Array Value → Addr → Pt → Prop} (hK : vx_Back l R p e below s args y 3 W9 Pre Post PostX)
    {g : JFrame} (hg : g.method = m) (hsize : g.locals.size = c.maxLocals) {argsL rest : List Value} (hlen : ∀ sig, parseMethodDescriptor y.desc = some sig → argsL.length = sig.parameters.length)
    (hstack : g.stack = argsL.reverse ++ rest) (hW : 2 * g.monitorRoom + (rest.map fun v => v.category).sum ≤ W9) (hdg : decode c.code g.pc = .ok (.invokestatic index, 3))
    (hpre : ∀ vm₁, s.WarmedH vm₁ → Pre ⟨T.setVm vm₁, locs, cells, slots⟩ argsL.toArray) :
    (∃ (v : Option Value) (vm₁ : Vm) (B : Pt), s.WarmedH vm₁ ∧ Stand p l e R s m args below meth c B.U B.locs B.cells B.slots ∧ Post ⟨T.setVm vm₁, locs, cells, slots⟩ argsL.toArray v B ∧
      ∀ target, Steps p.tables e below (B.U.setTop { g with pc := g.pc + 3, stack := v.toList ++ rest }) target → Steps p.tables e below (T.setTop g) target) ∨
    (∃ (q : Addr) (vm₁ : Vm) (B : Pt), s.WarmedH vm₁ ∧ Stand p l e R s m args below meth c B.U B.locs B.cells B.slots ∧ PostX ⟨T.setVm vm₁, locs, cells, slots⟩ argsL.toArray q B ∧
      Steps p.tables e below (T.setTop g) ((B.U.setTop { g with stack := rest }).pushFrame (.throwing q))) := by
  obtain ⟨mk, methM, cM, hnamed, hmethM, -, -, -, -, -, -, hsigM⟩ := Cond.codeWith_spec hcode
  have hstatic : methM.isStatic = true := Cond.static_spec hnamed hmethM hstat
  obtain ⟨kP, hkP, -⟩ := className_of_methodNamed hnamed
  have hinitP : kP.init = .initialized := Cond.initialized_spec (findClass_of_methodNamed hnamed) hkP hinit
  obtain ⟨vm₁, X₁, hstep₁⟩ := X.invokestatic hexec hown hlink hnamed hmethM hstatic hkP hinitP hy (g := g) hg (argsL := argsL) (rest := rest) (hlen _ hsigM) hstack hdg
  rcases hK m meth c ⟨T.setVm vm₁, locs, cells, slots⟩ { g with stack := rest } (.invokestatic index) mk argsL.toArray X₁ hg hsize hdg hW (X₁.named hnamed) (hpre vm₁ X₁.warmed) with ⟨v, B, X', hpost, hsteps⟩ | ⟨q, B, X', hpost, hsteps⟩
  · exact Or.inl ⟨v, vm₁, B, X₁.warmed, X', hpost, fun target h => hstep₁ _ fun acts => by rw [doInvoke_state]; exact hsteps.trans h⟩
  · exact Or.inr ⟨q, vm₁, B, X₁.warmed, X', hpost, hstep₁ _ fun acts => by rw [doInvoke_state]; exact hsteps⟩
theorem vx_callVW (X : Stand p l e R s m args below meth c T locs cells slots) (hexec : p.tables.exec = Jvm.exec) {own C : String} {index : Nat} {y : MethodName} {bytes : ByteArray} {maxL : Nat} {ret : Option FieldType} {hh : List (Nat × Nat × Nat × Nat)}
    (hown : s.vm.findClass own = some m.cls) (hlink : (Cond.methodLink own index y).before args s = true) (hinst : (Cond.instanceMethod y).before args s = true) (hsel : (Cond.selects C y y).before args s = true)
    (hcode : (Cond.codeWith y bytes maxL ret hh).before args s = true) (hy : y.cls ≠ "java/lang/invoke/MethodHandle" ∧ y.cls ≠ "java/lang/invoke/VarHandle")
    {W9 : Nat} {Pre : Pt → Array Value → Prop} {Post : Pt → Array Value → Option Value → Pt → Prop} (hK : Back l R p e below s args y 3 W9 Pre Post)
    {b : Addr} {cellB : Cell} (hcell : T.heap[b]? = some cellB) (hobj : cellB.vm.isStatics = false) (hcls : s.vm.findClass C = some cellB.cls)
    {g : JFrame} (hg : g.method = m) (hsize : g.locals.size = c.maxLocals) {argsL rest : List Value} (hlen : ∀ sig, parseMethodDescriptor y.desc = some sig → argsL.length = sig.parameters.length)
    (hstack : g.stack = argsL.reverse ++ .ref b :: rest) (hW : 2 * g.monitorRoom + (rest.map fun v => v.category).sum ≤ W9) (hdg : decode c.code g.pc = .ok (.invokevirtual index, 3))
    (hpre : ∀ vm₁, s.WarmedH vm₁ → Pre ⟨T.setVm vm₁, locs, cells, slots⟩ (Value.ref b :: argsL).toArray) :
    ∃ (v : Option Value) (vm₁ : Vm) (B : Pt), s.WarmedH vm₁ ∧ Stand p l e R s m args below meth c B.U B.locs B.cells B.slots ∧ Post ⟨T.setVm vm₁, locs, cells, slots⟩ (Value.ref b :: argsL).toArray v B ∧
      ∀ target, Steps p.tables e below (B.U.setTop { g with pc := g.pc + 3, stack := v.toList ++ rest }) target → Steps p.tables e below (T.setTop g) target := by
  obtain ⟨mk, methM, hnamed, hmethM, hstM, habM⟩ := Cond.instanceMethod_spec hinst
  obtain ⟨m8, methM', cM, hn8, hmethM', -, -, -, -, -, -, hsigM⟩ := Cond.codeWith_spec hcode
  cases Option.some.inj (hn8.symm.trans hnamed)
  cases hmethM.symm.trans hmethM'
  obtain ⟨c2, r2, m2, q1, q2, q3, q4, kP, hkP, hkPi⟩ := Cond.selects_spec hsel
  cases hcls.symm.trans q1
  cases (State.methodFound?_of_named hnamed hy).symm.trans q2
  cases hnamed.symm.trans q3
  have hselP : selectMethod e.platform s.vm cellB.cls mk = .method mk := by rw [Launch.admits_selectMethod X.admits]; exact q4
  obtain ⟨vm₁, X₁, hstep₁⟩ := X.invokevirtual hexec hown hlink hnamed hmethM hstM hkP hkPi hy (a := b) (cell := cellB) hcell
    (fun z h => by rw [h] at hobj; cases hobj) hselP hmethM habM hkP hkPi (g := g) hg (argsL := argsL) (rest := rest) (hlen _ hsigM) hstack hdg
  obtain ⟨v, B, X', hpost, hsteps⟩ := hK m meth c ⟨T.setVm vm₁, locs, cells, slots⟩ { g with stack := rest } (.invokevirtual index) mk (Value.ref b :: argsL).toArray X₁ hg hsize hdg hW (X₁.named hnamed) (hpre vm₁ X₁.warmed)
  exact ⟨v, vm₁, B, X₁.warmed, X', hpost, fun target h => hstep₁ _ fun acts => by rw [doInvoke_state]; exact hsteps.trans h⟩
abbrev vx_CVW (R : Room) (s : State) (args : Array Value) (own C : String) (index : Nat) (y : MethodName) (bytes : ByteArray) (maxL : Nat) (ret : Option FieldType) (hh : List (Nat × Nat × Nat × Nat)) (ws : List Cond) (rm : Room) (mc ms n : Nat) : Prop :=
  (rm.cells = mc ∧ rm.slots = ms ∧ rm.frames + 1 ≤ R.frames ∧ 8 + (maxL + 11) + rm.locals ≤ R.locals ∧ (∀ w ∈ ws, ∀ (a' : Array Value) (U : State), s.WarmedH U.vm → w.before a' U = true) ∧ Cond.codeWith y bytes maxL ret hh ∈ ws) ∧
  (Cond.codeWith y bytes maxL ret hh).before args s = true ∧ (Cond.initialized y.cls).before args s = true ∧ (y.cls ≠ "java/lang/invoke/MethodHandle" ∧ y.cls ≠ "java/lang/invoke/VarHandle") ∧
  (∀ sig, parseMethodDescriptor y.desc = some sig → n = sig.parameters.length) ∧ (Cond.methodLink own index y).before args s = true ∧ (Cond.instanceMethod y).before args s = true ∧ (Cond.selects C y y).before args s = true
theorem vx_cwVW {own C : String} {index maxL mc ms : Nat} {y : MethodName} {bytes : ByteArray} {ret : Option FieldType} {hh : List (Nat × Nat × Nat × Nat)} {Ts ws ws' : List Cond} {rm : Room} (n : Nat) (ht : ∀ w ∈ Ts, w.before args s = true) (hT : GoodIn Ts (wsV own index C y ws)) (hw : ws = Cond.codeWith y bytes maxL ret hh :: ws') (hrc : rm.cells = mc) (hrs : rm.slots = ms)
    (hd : y.cls = C ∧ y.cls ≠ "java/lang/invoke/MethodHandle" ∧ y.cls ≠ "java/lang/invoke/VarHandle" ∧ (parseMethodDescriptor y.desc).map (fun d => d.parameters.length) = some n) (hR : rm.frames + 1 ≤ R.frames ∧ 8 + (maxL + 11) + rm.locals ≤ R.locals) :
    vx_CVW R s args own C index y bytes maxL ret hh ws rm mc ms n := by
  obtain ⟨hC, hd⟩ := hd
  subst hC
  have ok : ∀ w ∈ wsV own index y.cls y ws, w.before args s = true := fun w h => ht w (hT w h).1
  have hG : GoodIn Ts ws := fun w h => hT w (by unfold wsV; exact List.mem_append_right _ h)
  have hc : Cond.codeWith y bytes maxL ret hh ∈ ws := by rw [hw]; exact List.mem_cons_self
  refine ⟨⟨hrc, hrs, hR.1, hR.2, pay_in ht hG, hc⟩, ht _ (hG _ hc).1, ok _ (by simp [wsV]), ⟨hd.1, hd.2.1⟩, fun sig h => ?_, ok _ (by simp [wsV]), ok _ (by simp [wsV]), ok _ (by simp [wsV])⟩
  have h2 := hd.2.2
  rw [h] at h2
  exact (Option.some.inj h2).symm
theorem vx_runVW {y : MethodName} {bytes cc : ByteArray} {maxL nL mc ms n index : Nat} {ret : Option FieldType} {hh : List (Nat × Nat × Nat × Nat)} {ws : List Cond} {rm : Room} {Pc : Array Value → State → Prop} {Qc : Array Value → State → Outcome → State → Prop} {free : Addr → Prop} {Ts : List Cond} {own C : String} {b : Addr} {As rest : List Value} {g : JFrame}
    (S : CallFix p m c cc nL s args Ts own) (hM : Met l y ws rm Pc Qc mc ms free) (cw : vx_CVW R s args own C index y bytes maxL ret hh ws rm mc ms n) (hp : PreV s H C b Pc As)
    (hg : g.method = m) (hn : As.length = n) (hsize : g.locals.size = nL) (hstack : g.stack = As.reverse ++ .ref b :: rest) (hW : 2 * g.monitorRoom + (rest.map fun v => v.category).sum ≤ 8) (hdg : decode cc g.pc = .ok (.invokevirtual index, 3)) (hf : cells + mc ≤ R.cells ∧ slots + ms ≤ R.slots) :
    va_Run p l e R s m args below meth c H locs cells slots mc ms g rest (Qc (Value.ref b :: As).toArray) free := by
  obtain ⟨⟨hrc, hrs, hfr, hlo, hws, hcw⟩, hcode, hini, hy, hlen, hl, hin, hse⟩ := cw
  have hK : Back l R p e below s args y 3 8 (PreOf R mc ms Pc) (PostOf Qc mc ms free) := va_backW (hh := hh) (bytes := bytes) (maxL := maxL) (ret := ret) hM hp.1 hrc hrs hfr hlo hws hcw (fun a' U hW => word_at hW (Or.inl (by first | rfl | simp [Cond.onTables, Cond.keeps, Cond.steady])) hini)
  obtain ⟨hx, hb, hml, ho, -⟩ := S
  obtain ⟨-, ⟨cellB, hcB, hoB, hclB⟩, hPc⟩ := hp
  intro T hT X
  obtain ⟨v, vm₁, ⟨U', l2, c2, s2⟩, hW₁, X', ⟨g', mk, t, L, e1, e2, hq, h1, hL, h2, h3⟩, st⟩ := vx_callVW X hx (C := C) (hh := hh) (bytes := bytes) (maxL := maxL) (ret := ret) ho hl hin hse hcode hy hK (by rw [hT]; exact hcB) hoB hclB hg (hsize.trans hml.symm) (argsL := As) (rest := rest) (fun sig h => hn.trans (hlen sig h)) hstack hW (by rw [hb]; exact hdg)
    (fun vm₁ hW₁ => ⟨hf.1, hf.2, hPc (T.setVm vm₁) hT hW₁⟩)
  dsimp only [Pt.U, Pt.locs, Pt.cells, Pt.slots] at X' e1 e2 h1 h2 h3 st
  subst h1; subst h2; subst h3
  exact ⟨v, (T.setVm vm₁).calling g' mk (Value.ref b :: As).toArray, t, U', L, hT, X', hL, e1, e2, hq, st⟩
section
variable {y : MethodName} {bytes cc : ByteArray} {maxL nL mc ms n index : Nat} {ret : Option FieldType} {ws : List Cond} {rm : Room} {Pc : Array Value → State → Prop} {Qc : Array Value → State → Outcome → State → Prop} {XC : String → State → State → Prop} {free : Addr → Prop} {Ts : List Cond} {own C : String} {b : Addr} {As rest : List Value} {g : JFrame}
theorem vx_runVX {hh : List (Nat × Nat × Nat × Nat)} (S : CallFix p m c cc nL s args Ts own) (hM : vx_Met l y ws rm Pc Qc XC mc ms free) (cw : vx_CVW R s args own C index y bytes maxL ret hh ws rm mc ms n) (hp : PreV s H C b Pc As)
    (hg : g.method = m) (hn : As.length = n) (hsize : g.locals.size = nL) (hstack : g.stack = As.reverse ++ .ref b :: rest) (hW : 2 * g.monitorRoom + (rest.map fun v => v.category).sum ≤ 8) (hdg : decode cc g.pc = .ok (.invokevirtual index, 3)) (hf : cells + mc ≤ R.cells ∧ slots + ms ≤ R.slots) :
    vx_Run p l e R s m args below meth c H locs cells slots mc ms g rest (Qc (Value.ref b :: As).toArray) XC free := by
  obtain ⟨⟨hrc, hrs, hfr, hlo, hws, hcw⟩, hcode, hini, hy, hlen, hl, hin, hse⟩ := cw
  have hK : vx_Back l R p e below s args y 3 8 (PreOf R mc ms Pc) (PostOf Qc mc ms free) (vx_Post XC mc ms free) := vx_backW (hh := hh) (bytes := bytes) (maxL := maxL) (ret := ret) hM hp.1 hrc hrs hfr hlo hws hcw (fun a' U hW => word_at hW (Or.inl (by first | rfl | simp [Cond.onTables, Cond.keeps, Cond.steady])) hini)
  obtain ⟨hx, hb, hml, ho, -⟩ := S
  obtain ⟨-, ⟨cellB, hcB, hoB, hclB⟩, hPc⟩ := hp
  intro T hT X
  rcases vx_callVX X hx (C := C) (hh := hh) (bytes := bytes) (maxL := maxL) (ret := ret) ho hl hin hse hcode hy hK (by rw [hT]; exact hcB) hoB hclB hg (hsize.trans hml.symm) (argsL := As) (rest := rest) (fun sig h => hn.trans (hlen sig h)) hstack hW (by rw [hb]; exact hdg)
    (fun vm₁ hW₁ => ⟨hf.1, hf.2, hPc (T.setVm vm₁) hT hW₁⟩) with ⟨v, vm₁, ⟨U', l2, c2, s2⟩, hW₁, X', ⟨g', mk, t, L, e1, e2, hq, h1, hL, h2, h3⟩, st⟩ | ⟨q, vm₁, ⟨U', l2, c2, s2⟩, hW₁, X', ⟨g', mk, t, L, E, ce, e1, e2, hq, hce, hcv, hcl, h1, hL, h2, h3⟩, st⟩
  · dsimp only [Pt.U, Pt.locs, Pt.cells, Pt.slots] at X' e1 e2 h1 h2 h3 st
    subst h1; subst h2; subst h3
    exact Or.inl ⟨v, (T.setVm vm₁).calling g' mk (Value.ref b :: As).toArray, t, U', L, hT, X', hL, e1, e2, hq, st⟩
  · dsimp only [Pt.U, Pt.locs, Pt.cells, Pt.slots] at X' e1 e2 h1 h2 h3 st hcl
    subst h1; subst h2; subst h3
    exact Or.inr ⟨q, (T.setVm vm₁).calling g' mk (Value.ref b :: As).toArray, t, U', L, E, ce, hT, X', hL, e1, e2, hq, hce, hcv, vx_cls hW₁ hcl, st⟩
theorem vx_runSX {hh : List (Nat × Nat × Nat × Nat)} (S : CallFix p m c cc nL s args Ts own) (hM : vx_Met l y ws rm Pc Qc XC mc ms free) (cw : vx_CSW R s args own index y bytes maxL ret hh ws rm mc ms n) (hp : PreS s H Pc As)
    (hg : g.method = m) (hn : As.length = n) (hsize : g.locals.size = nL) (hstack : g.stack = As.reverse ++ rest) (hW : 2 * g.monitorRoom + (rest.map fun v => v.category).sum ≤ 8) (hdg : decode cc g.pc = .ok (.invokestatic index, 3)) (hf : cells + mc ≤ R.cells ∧ slots + ms ≤ R.slots) :
    vx_Run p l e R s m args below meth c H locs cells slots mc ms g rest (Qc As.toArray) XC free := by
  obtain ⟨⟨hrc, hrs, hfr, hlo, hws, hcw⟩, hcode, hini, hy, hlen, hl, hstt⟩ := cw
  have hK : vx_Back l R p e below s args y 3 8 (PreOf R mc ms Pc) (PostOf Qc mc ms free) (vx_Post XC mc ms free) := vx_backW (hh := hh) (bytes := bytes) (maxL := maxL) (ret := ret) hM hp.1 hrc hrs hfr hlo hws hcw (fun a' U hW => word_at hW (Or.inl (by first | rfl | simp [Cond.onTables, Cond.keeps, Cond.steady])) hini)
  obtain ⟨hx, hb, hml, ho, -⟩ := S
  intro T hT X
  rcases vx_callSX X hx (hh := hh) (bytes := bytes) (maxL := maxL) (ret := ret) ho hl hstt hini hcode hy hK hg (hsize.trans hml.symm) (argsL := As) (rest := rest) (fun sig h => hn.trans (hlen sig h)) hstack hW (by rw [hb]; exact hdg)
    (fun vm₁ hW₁ => ⟨hf.1, hf.2, hp.2 (T.setVm vm₁) hT hW₁⟩) with ⟨v, vm₁, ⟨U', l2, c2, s2⟩, hW₁, X', ⟨g', mk, t, L, e1, e2, hq, h1, hL, h2, h3⟩, st⟩ | ⟨q, vm₁, ⟨U', l2, c2, s2⟩, hW₁, X', ⟨g', mk, t, L, E, ce, e1, e2, hq, hce, hcv, hcl, h1, hL, h2, h3⟩, st⟩
  · dsimp only [Pt.U, Pt.locs, Pt.cells, Pt.slots] at X' e1 e2 h1 h2 h3 st
    subst h1; subst h2; subst h3
    exact Or.inl ⟨v, (T.setVm vm₁).calling g' mk As.toArray, t, U', L, hT, X', hL, e1, e2, hq, st⟩
  · dsimp only [Pt.U, Pt.locs, Pt.cells, Pt.slots] at X' e1 e2 h1 h2 h3 st hcl
    subst h1; subst h2; subst h3
    exact Or.inr ⟨q, (T.setVm vm₁).calling g' mk As.toArray, t, U', L, E, ce, hT, X', hL, e1, e2, hq, hce, hcv, vx_cls hW₁ hcl, st⟩
end
end VXH
theorem vx_ofWH {l : Launch} {y : MethodName} {ws ws' : List Cond} {rm : Room} {Pc : Array Value → State → Prop} {Qc : Array Value → State → Outcome → State → Prop} {XC : String → State → State → Prop} {mc ms : Nat} {free : Addr → Prop} {cc : ByteArray} {maxL : Nat} {ret : Option FieldType} {hh : List (Nat × Nat × Nat × Nat)}
    (hy : plainName y.cls = true) (hw : ws = Cond.codeWith y cc maxL ret hh :: ws')
    (body : ∀ p e s m args below meth c s₁, BodyLoose p l y (headSpec ws rm) cc maxL ret e s m args below meth c s₁ → c.maxLocals = maxL → Pc args s →
      W p l e (headSpec ws rm).room s m args below meth c s.heap [] 0 0 (vx_MQ below Qc XC args s mc ms free) (entryFrame m args maxL)) : vx_Met l y ws rm Pc Qc XC mc ms free := by
  refine MetFree.of_bodyS (code := cc) (maxLocals := maxL) (ret := ret) hy ?_ ?_
  · intro args s m h hn
    obtain ⟨m9, meth, c, hn9, h1, h2, h3, h4, -, h5, h6, -⟩ := Cond.codeWith_spec (atoms_spec (ws := ws) h _ (by rw [hw]; exact List.mem_cons_self))
    cases hn.symm.trans hn9
    exact ⟨meth, c, h1, h2, h3, h4, h5, h6⟩
  · intro p e s m args below meth c s₁ B hml hP _
    have hh0 : s₁.heap = s.heap := by rw [B.state]; rfl
    obtain ⟨t, a1, o, b1, b2, b3⟩ := body p e s m args below meth c s₁ B hml hP s₁ hh0 (Stand.of_body B)
    exact ⟨t, o, a1, b1, b2, b3⟩
/-! ===== END ===== -/

/-! ===== BEGIN printed: names, fields, word lists, decode rows ===== -/
end
section
/-! names, tables and words, by program (wip/prog/names.py) -/
def T_CD : u_T := fun k => match k with
  | 0 => ("BigDesk$CommonDivisor", "larger", "LBigDesk$Whole;", false)
  | 1 => ("BigDesk$CommonDivisor", "smaller", "LBigDesk$Whole;", false)
  | 2 => ("BigDesk$CommonDivisor", "firstLarger", "J", false)
  | 3 => ("BigDesk$CommonDivisor", "firstSmaller", "J", false)
  | 4 => ("BigDesk$CommonDivisor", "secondLarger", "J", false)
  | _ => ("BigDesk$CommonDivisor", "secondSmaller", "J", false)
def t_CD : Nat → FieldType := fun k => match k with
  | 0 => (.object "BigDesk$Whole")
  | 1 => (.object "BigDesk$Whole")
  | 2 => .long
  | 3 => .long
  | 4 => .long
  | _ => .long
theorem n_CD : ∀ a, a < 6 → ∀ b, b < 6 → a ≠ b → (T_CD a).2.1 ≠ (T_CD b).2.1 := by decide +kernel
theorem o_CD : ∀ k, k < 6 → parseFieldDescriptor (T_CD k).2.2.1 = some (t_CD k) := by decide +kernel
def T_DV : u_T := fun k => match k with
  | 0 => ("BigDesk$Division", "quotient", "LBigDesk$Whole;", true)
  | 1 => ("BigDesk$Division", "remainder", "LBigDesk$Whole;", true)
  | _ => ("BigDesk$Division", "scaled", "LBigDesk$Whole;", true)
def t_DV : Nat → FieldType := fun k => match k with
  | 0 => (.object "BigDesk$Whole")
  | 1 => (.object "BigDesk$Whole")
  | _ => (.object "BigDesk$Whole")
theorem n_DV : ∀ a, a < 3 → ∀ b, b < 3 → a ≠ b → (T_DV a).2.1 ≠ (T_DV b).2.1 := by decide +kernel
theorem o_DV : ∀ k, k < 3 → parseFieldDescriptor (T_DV k).2.2.1 = some (t_DV k) := by decide +kernel
def T_WH : u_T := fun k => match k with
  | 0 => ("BigDesk$Whole", "limbs", "[J", true)
  | 1 => ("BigDesk$Whole", "size", "I", false)
  | _ => ("BigDesk$Whole", "negative", "Z", false)
def t_WH : Nat → FieldType := fun k => match k with
  | 0 => (.array .long)
  | 1 => .int
  | _ => .boolean
theorem n_WH : ∀ a, a < 3 → ∀ b, b < 3 → a ≠ b → (T_WH a).2.1 ≠ (T_WH b).2.1 := by decide +kernel
theorem o_WH : ∀ k, k < 3 → parseFieldDescriptor (T_WH k).2.2.1 = some (t_WH k) := by decide +kernel
def T_BD : u_T := fun k => match k with
  | 0 => ("BigDesk", "registers", "[LBigDesk$Whole;", true)
  | 1 => ("BigDesk", "made", "LBigDesk$Whole;", true)
  | 2 => ("BigDesk", "small", "LBigDesk$Whole;", true)
  | 3 => ("BigDesk", "division", "LBigDesk$Division;", true)
  | 4 => ("BigDesk", "commonDivisor", "LBigDesk$CommonDivisor;", true)
  | 5 => ("BigDesk", "tape", "[B", true)
  | 6 => ("BigDesk", "tapeLength", "I", false)
  | 7 => ("BigDesk", "written", "[B", true)
  | _ => ("BigDesk", "writtenLength", "I", false)
def t_BD : Nat → FieldType := fun k => match k with
  | 0 => (.array (.object "BigDesk$Whole"))
  | 1 => (.object "BigDesk$Whole")
  | 2 => (.object "BigDesk$Whole")
  | 3 => (.object "BigDesk$Division")
  | 4 => (.object "BigDesk$CommonDivisor")
  | 5 => (.array .byte)
  | 6 => .int
  | 7 => (.array .byte)
  | _ => .int
theorem n_BD : ∀ a, a < 9 → ∀ b, b < 9 → a ≠ b → (T_BD a).2.1 ≠ (T_BD b).2.1 := by decide +kernel
theorem o_BD : ∀ k, k < 9 → parseFieldDescriptor (T_BD k).2.2.1 = some (t_BD k) := by decide +kernel
def T_MO : u_T := fun k => match k with
  | 0 => ("BigDeskModel", "thrown", "I", false)
  | 1 => ("BigDeskModel", "digit", "[I", true)
  | 2 => ("BigDeskModel", "size", "[I", true)
  | 3 => ("BigDeskModel", "sign", "[I", true)
  | 4 => ("BigDeskModel", "tape", "[I", true)
  | 5 => ("BigDeskModel", "taped", "I", false)
  | 6 => ("BigDeskModel", "text", "[I", true)
  | _ => ("BigDeskModel", "written", "I", false)
def t_MO : Nat → FieldType := fun k => match k with
  | 0 => .int
  | 1 => (.array .int)
  | 2 => (.array .int)
  | 3 => (.array .int)
  | 4 => (.array .int)
  | 5 => .int
  | 6 => (.array .int)
  | _ => .int
theorem n_MO : ∀ a, a < 8 → ∀ b, b < 8 → a ≠ b → (T_MO a).2.1 ≠ (T_MO b).2.1 := by decide +kernel
theorem o_MO : ∀ k, k < 8 → parseFieldDescriptor (T_MO k).2.2.1 = some (t_MO k) := by decide +kernel
abbrev ah_cl : List vw_C := [("BigDesk$CommonDivisor", T_CD, 6), ("BigDesk$Division", T_DV, 3), ("BigDesk$Whole", T_WH, 3), ("BigDesk", T_BD, 9), ("BigDeskModel", T_MO, 8)]
def ah_tab : List (List (Nat × Nat)) := [[(2, 0), (2, 1), (1, 0), (1, 1), (1, 2), (1, 3)], [(2, 2), (2, 3), (2, 4)], [(2, 5), (0, 0), (0, 1)], [(2, 6), (2, 7), (2, 8), (2, 9), (2, 10), (2, 11), (0, 2), (2, 12), (0, 3)], [(0, 4), (2, 13), (2, 14), (2, 15), (2, 16), (0, 5), (2, 17), (0, 6)]]
def ah_tys : List (Nat × FieldType) := [(100, .int), (101, .byte), (110, .long), (120, .object "BigDesk$Whole")]
def zx_T : List Cond := lw_tbl.filter goodWord
theorem zx_in {w : Cond} (i : Nat) (h : lw_tbl[i]? = some w) (hg : goodWord w = true) : w ∈ zx_T := List.mem_filter.mpr ⟨List.mem_of_getElem? h, hg⟩
def y_BD_init : MethodName := ⟨"BigDesk", "<init>", "()V"⟩
abbrev b_BD_init : ByteArray := prog_1_method_1_code
def y_WH_init : MethodName := ⟨"BigDesk$Whole", "<init>", "()V"⟩
abbrev b_WH_init : ByteArray := prog_6_method_1_code
def y_DV_init : MethodName := ⟨"BigDesk$Division", "<init>", "()V"⟩
abbrev b_DV_init : ByteArray := prog_3_method_1_code
def y_CD_init : MethodName := ⟨"BigDesk$CommonDivisor", "<init>", "()V"⟩
abbrev b_CD_init : ByteArray := prog_2_method_1_code
def y_LW_set : MethodName := ⟨"BigDeskLaw", "set", "(LBigDesk;IJ)I"⟩
abbrev b_LW_set : ByteArray := method_3_code
def y_BD_set : MethodName := ⟨"BigDesk", "set", "(IJ)V"⟩
abbrev b_BD_set : ByteArray := prog_1_method_2_code
def y_BD_register : MethodName := ⟨"BigDesk", "register", "(I)LBigDesk$Whole;"⟩
abbrev b_BD_register : ByteArray := prog_1_method_23_code
def y_WH_becomeLong : MethodName := ⟨"BigDesk$Whole", "becomeLong", "(J)V"⟩
abbrev b_WH_becomeLong : ByteArray := prog_6_method_4_code
def y_WH_settle : MethodName := ⟨"BigDesk$Whole", "settle", "(I)V"⟩
abbrev b_WH_settle : ByteArray := prog_6_method_7_code
def y_WH_markSign : MethodName := ⟨"BigDesk$Whole", "markSign", "(Z)V"⟩
abbrev b_WH_markSign : ByteArray := prog_6_method_8_code
def y_LW_copy : MethodName := ⟨"BigDeskLaw", "copy", "(LBigDesk;II)I"⟩
abbrev b_LW_copy : ByteArray := method_4_code
def y_BD_copy : MethodName := ⟨"BigDesk", "copy", "(II)V"⟩
abbrev b_BD_copy : ByteArray := prog_1_method_3_code
def y_WH_become : MethodName := ⟨"BigDesk$Whole", "become", "(LBigDesk$Whole;)V"⟩
abbrev b_WH_become : ByteArray := prog_6_method_3_code
def y_LW_add : MethodName := ⟨"BigDeskLaw", "add", "(LBigDesk;III)I"⟩
abbrev b_LW_add : ByteArray := method_5_code
def y_BD_add : MethodName := ⟨"BigDesk", "add", "(III)V"⟩
abbrev b_BD_add : ByteArray := prog_1_method_4_code
def y_SU_total : MethodName := ⟨"BigDesk$Sums", "total", "(LBigDesk$Whole;LBigDesk$Whole;LBigDesk$Whole;Z)V"⟩
abbrev b_SU_total : ByteArray := prog_4_method_2_code
def y_SU_sumOfAbsolutes : MethodName := ⟨"BigDesk$Sums", "sumOfAbsolutes", "(LBigDesk$Whole;LBigDesk$Whole;LBigDesk$Whole;)V"⟩
abbrev b_SU_sumOfAbsolutes : ByteArray := prog_4_method_4_code
def y_JM_max : MethodName := ⟨"java/lang/Math", "max", "(II)I"⟩
abbrev b_JM_max : ByteArray := prog_14_method_65_code
def y_JM_min : MethodName := ⟨"java/lang/Math", "min", "(II)I"⟩
abbrev b_JM_min : ByteArray := prog_14_method_69_code
def y_SU_orderOfAbsolutes : MethodName := ⟨"BigDesk$Sums", "orderOfAbsolutes", "(LBigDesk$Whole;LBigDesk$Whole;)I"⟩
abbrev b_SU_orderOfAbsolutes : ByteArray := prog_4_method_3_code
def y_SU_differenceOfAbsolutes : MethodName := ⟨"BigDesk$Sums", "differenceOfAbsolutes", "(LBigDesk$Whole;LBigDesk$Whole;LBigDesk$Whole;)V"⟩
abbrev b_SU_differenceOfAbsolutes : ByteArray := prog_4_method_5_code
def y_BD_keepMade : MethodName := ⟨"BigDesk", "keepMade", "(LBigDesk$Whole;)V"⟩
abbrev b_BD_keepMade : ByteArray := prog_1_method_26_code
def y_WH_bits : MethodName := ⟨"BigDesk$Whole", "bits", "()I"⟩
abbrev b_WH_bits : ByteArray := prog_6_method_10_code
def y_WH_bitsOf : MethodName := ⟨"BigDesk$Whole", "bitsOf", "(J)I"⟩
abbrev b_WH_bitsOf : ByteArray := prog_6_method_19_code
def y_LW_subtract : MethodName := ⟨"BigDeskLaw", "subtract", "(LBigDesk;III)I"⟩
abbrev b_LW_subtract : ByteArray := method_6_code
def y_BD_subtract : MethodName := ⟨"BigDesk", "subtract", "(III)V"⟩
abbrev b_BD_subtract : ByteArray := prog_1_method_5_code
def y_LW_multiply : MethodName := ⟨"BigDeskLaw", "multiply", "(LBigDesk;III)I"⟩
abbrev b_LW_multiply : ByteArray := method_7_code
def y_BD_multiply : MethodName := ⟨"BigDesk", "multiply", "(III)V"⟩
abbrev b_BD_multiply : ByteArray := prog_1_method_6_code
def y_BD_keepProduct : MethodName := ⟨"BigDesk", "keepProduct", "(LBigDesk$Whole;LBigDesk$Whole;LBigDesk$Whole;)V"⟩
abbrev b_BD_keepProduct : ByteArray := prog_1_method_25_code
def y_SU_product : MethodName := ⟨"BigDesk$Sums", "product", "(LBigDesk$Whole;LBigDesk$Whole;LBigDesk$Whole;)Z"⟩
abbrev b_SU_product : ByteArray := prog_4_method_6_code
def y_SU_addRow : MethodName := ⟨"BigDesk$Sums", "addRow", "([JIJLBigDesk$Whole;)V"⟩
abbrev b_SU_addRow : ByteArray := prog_4_method_7_code
def y_LW_times : MethodName := ⟨"BigDeskLaw", "times", "(LBigDesk;IIJ)I"⟩
abbrev b_LW_times : ByteArray := method_8_code
def y_BD_times : MethodName := ⟨"BigDesk", "times", "(IIJ)V"⟩
abbrev b_BD_times : ByteArray := prog_1_method_7_code
def y_LW_shift : MethodName := ⟨"BigDeskLaw", "shift", "(LBigDesk;III)I"⟩
abbrev b_LW_shift : ByteArray := method_9_code
def y_BD_shift : MethodName := ⟨"BigDesk", "shift", "(III)V"⟩
abbrev b_BD_shift : ByteArray := prog_1_method_8_code
def y_BD_requireShift : MethodName := ⟨"BigDesk", "requireShift", "(I)V"⟩
abbrev b_BD_requireShift : ByteArray := prog_1_method_24_code
def y_WH_becomeShiftedUp : MethodName := ⟨"BigDesk$Whole", "becomeShiftedUp", "(LBigDesk$Whole;I)V"⟩
abbrev b_WH_becomeShiftedUp : ByteArray := prog_6_method_5_code
def y_WH_at : MethodName := ⟨"BigDesk$Whole", "at", "(I)J"⟩
abbrev b_WH_at : ByteArray := prog_6_method_9_code
def y_LW_half : MethodName := ⟨"BigDeskLaw", "half", "(LBigDesk;III)I"⟩
abbrev b_LW_half : ByteArray := method_10_code
def y_BD_half : MethodName := ⟨"BigDesk", "half", "(III)V"⟩
abbrev b_BD_half : ByteArray := prog_1_method_9_code
def y_WH_becomeShiftedDown : MethodName := ⟨"BigDesk$Whole", "becomeShiftedDown", "(LBigDesk$Whole;I)V"⟩
abbrev b_WH_becomeShiftedDown : ByteArray := prog_6_method_6_code
def y_WH_endingZeros : MethodName := ⟨"BigDesk$Whole", "endingZeros", "()I"⟩
abbrev b_WH_endingZeros : ByteArray := prog_6_method_11_code
def y_JL_bitCount : MethodName := ⟨"java/lang/Long", "bitCount", "(J)I"⟩
abbrev b_JL_bitCount : ByteArray := prog_13_method_50_code
def y_WH_addOne : MethodName := ⟨"BigDesk$Whole", "addOne", "()V"⟩
abbrev b_WH_addOne : ByteArray := prog_6_method_16_code
def y_LW_divide : MethodName := ⟨"BigDeskLaw", "divide", "(LBigDesk;IIII)I"⟩
abbrev b_LW_divide : ByteArray := method_11_code
def y_BD_divide : MethodName := ⟨"BigDesk", "divide", "(IIII)V"⟩
abbrev b_BD_divide : ByteArray := prog_1_method_10_code
def y_DV_downwards : MethodName := ⟨"BigDesk$Division", "downwards", "(LBigDesk$Whole;LBigDesk$Whole;)V"⟩
abbrev b_DV_downwards : ByteArray := prog_3_method_2_code
def y_DV_ofAbsolutes : MethodName := ⟨"BigDesk$Division", "ofAbsolutes", "(LBigDesk$Whole;LBigDesk$Whole;)V"⟩
abbrev b_DV_ofAbsolutes : ByteArray := prog_3_method_3_code
def y_WH_clear : MethodName := ⟨"BigDesk$Whole", "clear", "()V"⟩
abbrev b_WH_clear : ByteArray := prog_6_method_2_code
def y_DV_nextLimb : MethodName := ⟨"BigDesk$Division", "nextLimb", "(I)J"⟩
abbrev b_DV_nextLimb : ByteArray := prog_3_method_4_code
def y_DV_guessLimb : MethodName := ⟨"BigDesk$Division", "guessLimb", "(I)J"⟩
abbrev b_DV_guessLimb : ByteArray := prog_3_method_5_code
def y_DV_unsignedQuotient : MethodName := ⟨"BigDesk$Division", "unsignedQuotient", "(JJ)J"⟩
abbrev b_DV_unsignedQuotient : ByteArray := prog_3_method_6_code
def y_DV_takeAway : MethodName := ⟨"BigDesk$Division", "takeAway", "(IJ)Z"⟩
abbrev b_DV_takeAway : ByteArray := prog_3_method_7_code
def y_DV_putBack : MethodName := ⟨"BigDesk$Division", "putBack", "(I)V"⟩
abbrev b_DV_putBack : ByteArray := prog_3_method_8_code
def y_LW_gcd : MethodName := ⟨"BigDeskLaw", "gcd", "(LBigDesk;III)I"⟩
abbrev b_LW_gcd : ByteArray := method_12_code
def y_BD_gcd : MethodName := ⟨"BigDesk", "gcd", "(III)V"⟩
abbrev b_BD_gcd : ByteArray := prog_1_method_11_code
def y_CD_greatest : MethodName := ⟨"BigDesk$CommonDivisor", "greatest", "(LBigDesk$Whole;LBigDesk$Whole;LBigDesk$Division;)LBigDesk$Whole;"⟩
abbrev b_CD_greatest : ByteArray := prog_2_method_2_code
def y_CD_exchange : MethodName := ⟨"BigDesk$CommonDivisor", "exchange", "()V"⟩
abbrev b_CD_exchange : ByteArray := prog_2_method_3_code
def y_CD_foretell : MethodName := ⟨"BigDesk$CommonDivisor", "foretell", "()Z"⟩
abbrev b_CD_foretell : ByteArray := prog_2_method_4_code
def y_WH_longFrom : MethodName := ⟨"BigDesk$Whole", "longFrom", "(I)J"⟩
abbrev b_WH_longFrom : ByteArray := prog_6_method_15_code
def y_JM_abs : MethodName := ⟨"java/lang/Math", "abs", "(J)J"⟩
abbrev b_JM_abs : ByteArray := prog_14_method_61_code
def y_CD_combine : MethodName := ⟨"BigDesk$CommonDivisor", "combine", "()V"⟩
abbrev b_CD_combine : ByteArray := prog_2_method_5_code
def y_LW_negate : MethodName := ⟨"BigDeskLaw", "negate", "(LBigDesk;II)I"⟩
abbrev b_LW_negate : ByteArray := method_13_code
def y_BD_negate : MethodName := ⟨"BigDesk", "negate", "(II)V"⟩
abbrev b_BD_negate : ByteArray := prog_1_method_12_code
def y_LW_compare : MethodName := ⟨"BigDeskLaw", "compare", "(LBigDesk;II[J)I"⟩
abbrev b_LW_compare : ByteArray := method_14_code
def y_BD_compare : MethodName := ⟨"BigDesk", "compare", "(II)I"⟩
abbrev b_BD_compare : ByteArray := prog_1_method_13_code
def y_LW_rest : MethodName := ⟨"BigDeskLaw", "rest", "(LBigDesk;IJ[J)I"⟩
abbrev b_LW_rest : ByteArray := method_15_code
def y_BD_rest : MethodName := ⟨"BigDesk", "rest", "(IJ)J"⟩
abbrev b_BD_rest : ByteArray := prog_1_method_14_code
def y_WH_asLong : MethodName := ⟨"BigDesk$Whole", "asLong", "()J"⟩
abbrev b_WH_asLong : ByteArray := prog_6_method_13_code
def y_WH_lowestLong : MethodName := ⟨"BigDesk$Whole", "lowestLong", "()J"⟩
abbrev b_WH_lowestLong : ByteArray := prog_6_method_14_code
def y_LW_value : MethodName := ⟨"BigDeskLaw", "value", "(LBigDesk;I[J)I"⟩
abbrev b_LW_value : ByteArray := method_16_code
def y_BD_value : MethodName := ⟨"BigDesk", "value", "(I)J"⟩
abbrev b_BD_value : ByteArray := prog_1_method_15_code
def y_WH_isLong : MethodName := ⟨"BigDesk$Whole", "isLong", "()Z"⟩
abbrev b_WH_isLong : ByteArray := prog_6_method_12_code
def y_LW_limb : MethodName := ⟨"BigDeskLaw", "limb", "(LBigDesk;II[J)I"⟩
abbrev b_LW_limb : ByteArray := method_17_code
def y_BD_limb : MethodName := ⟨"BigDesk", "limb", "(II)J"⟩
abbrev b_BD_limb : ByteArray := prog_1_method_16_code
def y_LW_look : MethodName := ⟨"BigDeskLaw", "look", "(LBigDesk;II[J)I"⟩
abbrev b_LW_look : ByteArray := method_18_code
def y_BD_look : MethodName := ⟨"BigDesk", "look", "(II)I"⟩
abbrev b_BD_look : ByteArray := prog_1_method_17_code
def y_LW_feed : MethodName := ⟨"BigDeskLaw", "feed", "(LBigDesk;IJ[J)I"⟩
abbrev b_LW_feed : ByteArray := method_19_code
def y_BD_feed : MethodName := ⟨"BigDesk", "feed", "(IJ)I"⟩
abbrev b_BD_feed : ByteArray := prog_1_method_18_code
def y_LW_read : MethodName := ⟨"BigDeskLaw", "read", "(LBigDesk;I[J)I"⟩
abbrev b_LW_read : ByteArray := method_20_code
def y_BD_read : MethodName := ⟨"BigDesk", "read", "(I)Z"⟩
abbrev b_BD_read : ByteArray := prog_1_method_19_code
def y_TX_numberOf : MethodName := ⟨"BigDesk$Texts", "numberOf", "(LBigDesk$Whole;[BI)Z"⟩
abbrev b_TX_numberOf : ByteArray := prog_5_method_3_code
def y_TX_isText : MethodName := ⟨"BigDesk$Texts", "isText", "([BI)Z"⟩
abbrev b_TX_isText : ByteArray := prog_5_method_2_code
def y_WH_appendChunk : MethodName := ⟨"BigDesk$Whole", "appendChunk", "(J)V"⟩
abbrev b_WH_appendChunk : ByteArray := prog_6_method_17_code
def y_LW_write : MethodName := ⟨"BigDeskLaw", "write", "(LBigDesk;I[J)I"⟩
abbrev b_LW_write : ByteArray := method_21_code
def y_BD_write : MethodName := ⟨"BigDesk", "write", "(I)I"⟩
abbrev b_BD_write : ByteArray := prog_1_method_20_code
def y_TX_textOf : MethodName := ⟨"BigDesk$Texts", "textOf", "(LBigDesk$Whole;[B)I"⟩
abbrev b_TX_textOf : ByteArray := prog_5_method_4_code
def y_TX_layChunk : MethodName := ⟨"BigDesk$Texts", "layChunk", "(LBigDesk$Whole;[BI)I"⟩
abbrev b_TX_layChunk : ByteArray := prog_5_method_5_code
def y_WH_takeChunk : MethodName := ⟨"BigDesk$Whole", "takeChunk", "()J"⟩
abbrev b_WH_takeChunk : ByteArray := prog_6_method_18_code
def y_TX_layByte : MethodName := ⟨"BigDesk$Texts", "layByte", "(I[BI)I"⟩
abbrev b_TX_layByte : ByteArray := prog_5_method_6_code
def y_LW_out : MethodName := ⟨"BigDeskLaw", "out", "(LBigDesk;I[J)I"⟩
abbrev b_LW_out : ByteArray := method_22_code
def y_BD_out : MethodName := ⟨"BigDesk", "out", "(I)J"⟩
abbrev b_BD_out : ByteArray := prog_1_method_21_code
def y_LW_text : MethodName := ⟨"BigDeskLaw", "text", "(LBigDesk;I[J)I"⟩
abbrev b_LW_text : ByteArray := method_23_code
def y_BD_text : MethodName := ⟨"BigDesk", "text", "(I)I"⟩
abbrev b_BD_text : ByteArray := prog_1_method_22_code
def y_MO_init : MethodName := ⟨"BigDeskModel", "<init>", "()V"⟩
abbrev b_MO_init : ByteArray := prog_8_method_1_code
def y_MO_setRow : MethodName := ⟨"BigDeskModel", "setRow", "(IJ)V"⟩
abbrev b_MO_setRow : ByteArray := prog_8_method_6_code
def y_MO_scale : MethodName := ⟨"BigDeskModel", "scale", "(II)V"⟩
abbrev b_MO_scale : ByteArray := prog_8_method_14_code
def y_MO_at : MethodName := ⟨"BigDeskModel", "at", "(II)I"⟩
abbrev b_MO_at : ByteArray := prog_8_method_8_code
def y_MO_thrown : MethodName := ⟨"BigDeskModel", "thrown", "()I"⟩
abbrev b_MO_thrown : ByteArray := prog_8_method_2_code
def y_MO_set : MethodName := ⟨"BigDeskModel", "set", "(IJ)V"⟩
abbrev b_MO_set : ByteArray := prog_8_method_21_code
def y_MO_isNone : MethodName := ⟨"BigDeskModel", "isNone", "(I)Z"⟩
abbrev b_MO_isNone : ByteArray := prog_8_method_5_code
def y_MO_fails : MethodName := ⟨"BigDeskModel", "fails", "(ZI)Z"⟩
abbrev b_MO_fails : ByteArray := prog_8_method_3_code
def y_MO_copy : MethodName := ⟨"BigDeskModel", "copy", "(II)V"⟩
abbrev b_MO_copy : ByteArray := prog_8_method_22_code
def y_MO_copyRow : MethodName := ⟨"BigDeskModel", "copyRow", "(II)V"⟩
abbrev b_MO_copyRow : ByteArray := prog_8_method_7_code
def y_MO_add : MethodName := ⟨"BigDeskModel", "add", "(III)V"⟩
abbrev b_MO_add : ByteArray := prog_8_method_23_code
def y_MO_sum : MethodName := ⟨"BigDeskModel", "sum", "(III)V"⟩
abbrev b_MO_sum : ByteArray := prog_8_method_12_code
def y_MO_joins : MethodName := ⟨"BigDeskModel", "joins", "(IIII)V"⟩
abbrev b_MO_joins : ByteArray := prog_8_method_11_code
def y_MO_trim : MethodName := ⟨"BigDeskModel", "trim", "(II)V"⟩
abbrev b_MO_trim : ByteArray := prog_8_method_9_code
def y_MO_against : MethodName := ⟨"BigDeskModel", "against", "(II)I"⟩
abbrev b_MO_against : ByteArray := prog_8_method_10_code
def y_MO_becomes : MethodName := ⟨"BigDeskModel", "becomes", "(I)Z"⟩
abbrev b_MO_becomes : ByteArray := prog_8_method_19_code
def y_MO_subtract : MethodName := ⟨"BigDeskModel", "subtract", "(III)V"⟩
abbrev b_MO_subtract : ByteArray := prog_8_method_24_code
def y_MO_multiply : MethodName := ⟨"BigDeskModel", "multiply", "(III)V"⟩
abbrev b_MO_multiply : ByteArray := prog_8_method_25_code
def y_MO_product : MethodName := ⟨"BigDeskModel", "product", "(II)V"⟩
abbrev b_MO_product : ByteArray := prog_8_method_13_code
def y_MO_times : MethodName := ⟨"BigDeskModel", "times", "(IIJ)V"⟩
abbrev b_MO_times : ByteArray := prog_8_method_26_code
def y_MO_shift : MethodName := ⟨"BigDeskModel", "shift", "(III)V"⟩
abbrev b_MO_shift : ByteArray := prog_8_method_27_code
def y_MO_in : MethodName := ⟨"BigDeskModel", "in", "(JJJ)Z"⟩
abbrev b_MO_in : ByteArray := prog_8_method_4_code
def y_MO_half : MethodName := ⟨"BigDeskModel", "half", "(III)V"⟩
abbrev b_MO_half : ByteArray := prog_8_method_28_code
def y_MO_parts : MethodName := ⟨"BigDeskModel", "parts", "(II)I"⟩
abbrev b_MO_parts : ByteArray := prog_8_method_15_code
def y_MO_divide : MethodName := ⟨"BigDeskModel", "divide", "(IIII)V"⟩
abbrev b_MO_divide : ByteArray := prog_8_method_29_code
def y_MO_quotient : MethodName := ⟨"BigDeskModel", "quotient", "(II)V"⟩
abbrev b_MO_quotient : ByteArray := prog_8_method_16_code
def y_MO_guess : MethodName := ⟨"BigDeskModel", "guess", "(I)I"⟩
abbrev b_MO_guess : ByteArray := prog_8_method_17_code
def y_MO_lessens : MethodName := ⟨"BigDeskModel", "lessens", "(II)V"⟩
abbrev b_MO_lessens : ByteArray := prog_8_method_18_code
def y_MO_gcd : MethodName := ⟨"BigDeskModel", "gcd", "(III)V"⟩
abbrev b_MO_gcd : ByteArray := prog_8_method_30_code
def y_MO_negate : MethodName := ⟨"BigDeskModel", "negate", "(II)V"⟩
abbrev b_MO_negate : ByteArray := prog_8_method_31_code
def y_MO_compare : MethodName := ⟨"BigDeskModel", "compare", "(II)I"⟩
abbrev b_MO_compare : ByteArray := prog_8_method_32_code
def y_MO_rest : MethodName := ⟨"BigDeskModel", "rest", "(IJ)J"⟩
abbrev b_MO_rest : ByteArray := prog_8_method_33_code
def y_MO_twice : MethodName := ⟨"BigDeskModel", "twice", "(JJJ)J"⟩
abbrev b_MO_twice : ByteArray := prog_8_method_34_code
def y_MO_value : MethodName := ⟨"BigDeskModel", "value", "(I)J"⟩
abbrev b_MO_value : ByteArray := prog_8_method_37_code
def y_MO_isLong : MethodName := ⟨"BigDeskModel", "isLong", "(I)Z"⟩
abbrev b_MO_isLong : ByteArray := prog_8_method_35_code
def y_MO_longOf : MethodName := ⟨"BigDeskModel", "longOf", "(I)J"⟩
abbrev b_MO_longOf : ByteArray := prog_8_method_36_code
def y_MO_limb : MethodName := ⟨"BigDeskModel", "limb", "(II)J"⟩
abbrev b_MO_limb : ByteArray := prog_8_method_38_code
def y_MO_look : MethodName := ⟨"BigDeskModel", "look", "(II)I"⟩
abbrev b_MO_look : ByteArray := prog_8_method_39_code
def y_MO_bits : MethodName := ⟨"BigDeskModel", "bits", "(I)I"⟩
abbrev b_MO_bits : ByteArray := prog_8_method_20_code
def y_MO_feed : MethodName := ⟨"BigDeskModel", "feed", "(IJ)I"⟩
abbrev b_MO_feed : ByteArray := prog_8_method_40_code
def y_MO_read : MethodName := ⟨"BigDeskModel", "read", "(I)Z"⟩
abbrev b_MO_read : ByteArray := prog_8_method_42_code
def y_MO_reads : MethodName := ⟨"BigDeskModel", "reads", "()Z"⟩
abbrev b_MO_reads : ByteArray := prog_8_method_41_code
def y_MO_write : MethodName := ⟨"BigDeskModel", "write", "(I)I"⟩
abbrev b_MO_write : ByteArray := prog_8_method_43_code
def y_MO_say : MethodName := ⟨"BigDeskModel", "say", "(I)V"⟩
abbrev b_MO_say : ByteArray := prog_8_method_44_code
def y_MO_out : MethodName := ⟨"BigDeskModel", "out", "(I)J"⟩
abbrev b_MO_out : ByteArray := prog_8_method_45_code
def y_MO_text : MethodName := ⟨"BigDeskModel", "text", "(I)I"⟩
abbrev b_MO_text : ByteArray := prog_8_method_46_code
theorem wd_s0 : Cond.selects "BigDesk" y_BD_register y_BD_register ∈ zx_T := zx_in 0 rfl rfl
theorem wd_s2 : Cond.selects "BigDesk" y_BD_keepMade y_BD_keepMade ∈ zx_T := zx_in 2 rfl rfl
theorem wd_s3 : Cond.selects "BigDesk" y_BD_keepProduct y_BD_keepProduct ∈ zx_T := zx_in 3 rfl rfl
theorem wd_s4 : Cond.selects "BigDesk$Division" y_DV_nextLimb y_DV_nextLimb ∈ zx_T := zx_in 4 rfl rfl
theorem wd_s5 : Cond.selects "BigDesk$Division" y_DV_guessLimb y_DV_guessLimb ∈ zx_T := zx_in 5 rfl rfl
theorem wd_s6 : Cond.selects "BigDesk$Division" y_DV_takeAway y_DV_takeAway ∈ zx_T := zx_in 6 rfl rfl
theorem wd_s7 : Cond.selects "BigDesk$Division" y_DV_putBack y_DV_putBack ∈ zx_T := zx_in 7 rfl rfl
theorem wd_s8 : Cond.selects "BigDesk$CommonDivisor" y_CD_exchange y_CD_exchange ∈ zx_T := zx_in 8 rfl rfl
theorem wd_s9 : Cond.selects "BigDesk$CommonDivisor" y_CD_foretell y_CD_foretell ∈ zx_T := zx_in 9 rfl rfl
theorem wd_s10 : Cond.selects "BigDesk$CommonDivisor" y_CD_combine y_CD_combine ∈ zx_T := zx_in 10 rfl rfl
theorem wd_s11 : Cond.selects "BigDesk$Whole" y_WH_lowestLong y_WH_lowestLong ∈ zx_T := zx_in 11 rfl rfl
theorem wd_s12 : Cond.selects "BigDeskModel" y_MO_setRow y_MO_setRow ∈ zx_T := zx_in 12 rfl rfl
theorem wd_s13 : Cond.selects "BigDeskModel" y_MO_scale y_MO_scale ∈ zx_T := zx_in 13 rfl rfl
theorem wd_s14 : Cond.selects "BigDeskModel" y_MO_at y_MO_at ∈ zx_T := zx_in 14 rfl rfl
theorem wd_s15 : Cond.selects "BigDeskModel" y_MO_fails y_MO_fails ∈ zx_T := zx_in 15 rfl rfl
theorem wd_s16 : Cond.selects "BigDeskModel" y_MO_copyRow y_MO_copyRow ∈ zx_T := zx_in 16 rfl rfl
theorem wd_s17 : Cond.selects "BigDeskModel" y_MO_sum y_MO_sum ∈ zx_T := zx_in 17 rfl rfl
theorem wd_s18 : Cond.selects "BigDeskModel" y_MO_joins y_MO_joins ∈ zx_T := zx_in 18 rfl rfl
theorem wd_s19 : Cond.selects "BigDeskModel" y_MO_trim y_MO_trim ∈ zx_T := zx_in 19 rfl rfl
theorem wd_s20 : Cond.selects "BigDeskModel" y_MO_against y_MO_against ∈ zx_T := zx_in 20 rfl rfl
theorem wd_s21 : Cond.selects "BigDeskModel" y_MO_becomes y_MO_becomes ∈ zx_T := zx_in 21 rfl rfl
theorem wd_s22 : Cond.selects "BigDeskModel" y_MO_product y_MO_product ∈ zx_T := zx_in 22 rfl rfl
theorem wd_s23 : Cond.selects "BigDeskModel" y_MO_parts y_MO_parts ∈ zx_T := zx_in 23 rfl rfl
theorem wd_s24 : Cond.selects "BigDeskModel" y_MO_quotient y_MO_quotient ∈ zx_T := zx_in 24 rfl rfl
theorem wd_s25 : Cond.selects "BigDeskModel" y_MO_guess y_MO_guess ∈ zx_T := zx_in 25 rfl rfl
theorem wd_s26 : Cond.selects "BigDeskModel" y_MO_lessens y_MO_lessens ∈ zx_T := zx_in 26 rfl rfl
theorem wd_s27 : Cond.selects "BigDeskModel" y_MO_isLong y_MO_isLong ∈ zx_T := zx_in 27 rfl rfl
theorem wd_s28 : Cond.selects "BigDeskModel" y_MO_longOf y_MO_longOf ∈ zx_T := zx_in 28 rfl rfl
theorem wd_s29 : Cond.selects "BigDeskModel" y_MO_bits y_MO_bits ∈ zx_T := zx_in 29 rfl rfl
theorem wd_s30 : Cond.selects "BigDeskModel" y_MO_reads y_MO_reads ∈ zx_T := zx_in 30 rfl rfl
theorem wd_s31 : Cond.selects "BigDeskModel" y_MO_say y_MO_say ∈ zx_T := zx_in 31 rfl rfl
theorem wd_0 : (Cond.initialized "BigDeskLaw") ∈ zx_T := zx_in 32 rfl rfl
theorem wd_1 : (Cond.initialized "BigDesk") ∈ zx_T := zx_in 33 rfl rfl
theorem wd_2 : (Cond.initialized "BigDesk$Whole") ∈ zx_T := zx_in 34 rfl rfl
theorem wd_3 : (Cond.initialized "BigDesk$Division") ∈ zx_T := zx_in 35 rfl rfl
theorem wd_4 : (Cond.initialized "BigDesk$CommonDivisor") ∈ zx_T := zx_in 36 rfl rfl
theorem wd_5 : (Cond.initialized "BigDeskModel") ∈ zx_T := zx_in 37 rfl rfl
theorem wd_6 : (Cond.initialized "java/lang/Throwable") ∈ zx_T := zx_in 38 rfl rfl
theorem wd_7 : (Cond.initialized "java/lang/Exception") ∈ zx_T := zx_in 39 rfl rfl
theorem wd_8 : (Cond.initialized "java/lang/RuntimeException") ∈ zx_T := zx_in 40 rfl rfl
theorem wd_9 : (Cond.initialized "java/lang/IllegalArgumentException") ∈ zx_T := zx_in 41 rfl rfl
theorem wd_10 : (Cond.initialized "java/lang/System") ∈ zx_T := zx_in 42 rfl rfl
theorem wd_11 : (Cond.initialized "BigDesk$Sums") ∈ zx_T := zx_in 43 rfl rfl
theorem wd_12 : (Cond.initialized "java/lang/Math") ∈ zx_T := zx_in 44 rfl rfl
theorem wd_13 : (Cond.initialized "java/lang/IllegalStateException") ∈ zx_T := zx_in 45 rfl rfl
theorem wd_14 : (Cond.initialized "java/lang/Long") ∈ zx_T := zx_in 46 rfl rfl
theorem wd_15 : (Cond.initialized "java/lang/ArithmeticException") ∈ zx_T := zx_in 47 rfl rfl
theorem wd_16 : (Cond.initialized "BigDesk$Texts") ∈ zx_T := zx_in 48 rfl rfl
theorem wd_17 : (Cond.initialized "java/util/NoSuchElementException") ∈ zx_T := zx_in 49 rfl rfl
theorem wd_18 : (Cond.classLink "BigDeskLaw" (8 : Nat) "BigDesk") ∈ zx_T := zx_in 50 rfl rfl
theorem wd_19 : (Cond.instantiable "BigDesk" (9 : Nat)) ∈ zx_T := zx_in 51 rfl rfl
theorem wd_20 : (Cond.methodLink "BigDeskLaw" (92 : Nat) y_BD_init) ∈ zx_T := zx_in 52 rfl rfl
theorem wd_21 : (Cond.instanceMethod y_BD_init) ∈ zx_T := zx_in 53 rfl rfl
theorem wd_22 : (Cond.code y_BD_init prog_1_method_1_code (2 : Nat) (Option.none : Option FieldType)) ∈ zx_T := zx_in 54 rfl rfl
theorem wd_23 : (Cond.methodLink "BigDesk" (3 : Nat) (⟨"java/lang/Object", "<init>", "()V"⟩ : MethodName)) ∈ zx_T := zx_in 55 rfl rfl
theorem wd_24 : (Cond.instanceMethod (⟨"java/lang/Object", "<init>", "()V"⟩ : MethodName)) ∈ zx_T := zx_in 56 rfl rfl
theorem wd_25 : (Cond.code (⟨"java/lang/Object", "<init>", "()V"⟩ : MethodName) object_method_1_code (1 : Nat) (Option.none : Option FieldType)) ∈ zx_T := zx_in 57 rfl rfl
theorem wd_26 : (Cond.classLink "BigDesk" (9 : Nat) "BigDesk$Whole") ∈ zx_T := zx_in 58 rfl rfl
theorem wd_28 : (Cond.instantiable "BigDesk$Whole" (3 : Nat)) ∈ zx_T := zx_in 60 rfl rfl
theorem wd_30 : (Cond.instanceMethod y_WH_init) ∈ zx_T := zx_in 62 rfl rfl
theorem wd_31 : (Cond.code y_WH_init prog_6_method_1_code (1 : Nat) (Option.none : Option FieldType)) ∈ zx_T := zx_in 63 rfl rfl
theorem wd_32 : (Cond.methodLink "BigDesk$Whole" (3 : Nat) (⟨"java/lang/Object", "<init>", "()V"⟩ : MethodName)) ∈ zx_T := zx_in 64 rfl rfl
theorem wd_33 : (Cond.fieldLink "BigDesk$Whole" (9 : Nat) "BigDesk$Whole" "limbs" "[J") ∈ zx_T := zx_in 65 rfl rfl
theorem wd_34 : (Cond.fieldLink "BigDesk$Division" (52 : Nat) "BigDesk$Whole" "limbs" "[J") ∈ zx_T := zx_in 66 rfl rfl
theorem wd_35 : (Cond.fieldLink "BigDesk$Sums" (36 : Nat) "BigDesk$Whole" "limbs" "[J") ∈ zx_T := zx_in 67 rfl rfl
theorem wd_36 : (Cond.fieldLink "BigDesk$CommonDivisor" (91 : Nat) "BigDesk$Whole" "limbs" "[J") ∈ zx_T := zx_in 68 rfl rfl
theorem wd_37 : (Cond.fieldLink "BigDesk$Whole" (15 : Nat) "BigDesk$Whole" "size" "I") ∈ zx_T := zx_in 69 rfl rfl
theorem wd_38 : (Cond.fieldLink "BigDesk$Division" (32 : Nat) "BigDesk$Whole" "size" "I") ∈ zx_T := zx_in 70 rfl rfl
theorem wd_39 : (Cond.fieldLink "BigDesk$CommonDivisor" (38 : Nat) "BigDesk$Whole" "size" "I") ∈ zx_T := zx_in 71 rfl rfl
theorem wd_40 : (Cond.fieldLink "BigDesk$Sums" (32 : Nat) "BigDesk$Whole" "size" "I") ∈ zx_T := zx_in 72 rfl rfl
theorem wd_41 : (Cond.fieldLink "BigDesk$Texts" (36 : Nat) "BigDesk$Whole" "size" "I") ∈ zx_T := zx_in 73 rfl rfl
theorem wd_42 : (Cond.fieldLink "BigDesk" (117 : Nat) "BigDesk$Whole" "size" "I") ∈ zx_T := zx_in 74 rfl rfl
theorem wd_43 : (Cond.fieldLink "BigDesk$Whole" (19 : Nat) "BigDesk$Whole" "negative" "Z") ∈ zx_T := zx_in 75 rfl rfl
theorem wd_44 : (Cond.fieldLink "BigDesk$Sums" (9 : Nat) "BigDesk$Whole" "negative" "Z") ∈ zx_T := zx_in 76 rfl rfl
theorem wd_45 : (Cond.fieldLink "BigDesk$Division" (28 : Nat) "BigDesk$Whole" "negative" "Z") ∈ zx_T := zx_in 77 rfl rfl
theorem wd_46 : (Cond.fieldLink "BigDesk$Texts" (32 : Nat) "BigDesk$Whole" "negative" "Z") ∈ zx_T := zx_in 78 rfl rfl
theorem wd_47 : (Cond.fieldLink "BigDesk" (95 : Nat) "BigDesk$Whole" "negative" "Z") ∈ zx_T := zx_in 79 rfl rfl
theorem wd_48 : (Cond.laysFinal "BigDesk$Whole" "BigDesk$Whole" "limbs" "[J") ∈ zx_T := zx_in 80 rfl rfl
theorem wd_49 : (Cond.soleField "BigDesk$Whole" "limbs") ∈ zx_T := zx_in 81 rfl rfl
theorem wd_50 : (Cond.lays "BigDesk$Whole" "BigDesk$Whole" "size" "I") ∈ zx_T := zx_in 82 rfl rfl
theorem wd_51 : (Cond.soleField "BigDesk$Whole" "size") ∈ zx_T := zx_in 83 rfl rfl
theorem wd_52 : (Cond.lays "BigDesk$Whole" "BigDesk$Whole" "negative" "Z") ∈ zx_T := zx_in 84 rfl rfl
theorem wd_53 : (Cond.soleField "BigDesk$Whole" "negative") ∈ zx_T := zx_in 85 rfl rfl
theorem wd_54 : (Cond.superclass "BigDesk$Whole" "java/lang/Object") ∈ zx_T := zx_in 86 rfl rfl
theorem wd_55 : (Cond.arrayClass FieldType.long) ∈ zx_T := zx_in 87 rfl rfl
theorem wd_56 : (Cond.classLink "BigDesk" (23 : Nat) "BigDesk$Division") ∈ zx_T := zx_in 88 rfl rfl
theorem wd_57 : (Cond.instantiable "BigDesk$Division" (3 : Nat)) ∈ zx_T := zx_in 89 rfl rfl
theorem wd_59 : (Cond.instanceMethod y_DV_init) ∈ zx_T := zx_in 91 rfl rfl
theorem wd_60 : (Cond.code y_DV_init prog_3_method_1_code (1 : Nat) (Option.none : Option FieldType)) ∈ zx_T := zx_in 92 rfl rfl
theorem wd_61 : (Cond.methodLink "BigDesk$Division" (3 : Nat) (⟨"java/lang/Object", "<init>", "()V"⟩ : MethodName)) ∈ zx_T := zx_in 93 rfl rfl
theorem wd_62 : (Cond.classLink "BigDesk$Division" (9 : Nat) "BigDesk$Whole") ∈ zx_T := zx_in 94 rfl rfl
theorem wd_64 : (Cond.fieldLink "BigDesk$Division" (12 : Nat) "BigDesk$Division" "quotient" "LBigDesk$Whole;") ∈ zx_T := zx_in 96 rfl rfl
theorem wd_65 : (Cond.fieldLink "BigDesk" (129 : Nat) "BigDesk$Division" "quotient" "LBigDesk$Whole;") ∈ zx_T := zx_in 97 rfl rfl
theorem wd_66 : (Cond.fieldLink "BigDesk$Division" (18 : Nat) "BigDesk$Division" "remainder" "LBigDesk$Whole;") ∈ zx_T := zx_in 98 rfl rfl
theorem wd_67 : (Cond.fieldLink "BigDesk$CommonDivisor" (55 : Nat) "BigDesk$Division" "remainder" "LBigDesk$Whole;") ∈ zx_T := zx_in 99 rfl rfl
theorem wd_68 : (Cond.fieldLink "BigDesk" (132 : Nat) "BigDesk$Division" "remainder" "LBigDesk$Whole;") ∈ zx_T := zx_in 100 rfl rfl
theorem wd_69 : (Cond.fieldLink "BigDesk$Division" (21 : Nat) "BigDesk$Division" "scaled" "LBigDesk$Whole;") ∈ zx_T := zx_in 101 rfl rfl
theorem wd_70 : (Cond.laysFinal "BigDesk$Division" "BigDesk$Division" "quotient" "LBigDesk$Whole;") ∈ zx_T := zx_in 102 rfl rfl
theorem wd_71 : (Cond.soleField "BigDesk$Division" "quotient") ∈ zx_T := zx_in 103 rfl rfl
theorem wd_72 : (Cond.laysFinal "BigDesk$Division" "BigDesk$Division" "remainder" "LBigDesk$Whole;") ∈ zx_T := zx_in 104 rfl rfl
theorem wd_73 : (Cond.soleField "BigDesk$Division" "remainder") ∈ zx_T := zx_in 105 rfl rfl
theorem wd_74 : (Cond.laysFinal "BigDesk$Division" "BigDesk$Division" "scaled" "LBigDesk$Whole;") ∈ zx_T := zx_in 106 rfl rfl
theorem wd_75 : (Cond.soleField "BigDesk$Division" "scaled") ∈ zx_T := zx_in 107 rfl rfl
theorem wd_76 : (Cond.superclass "BigDesk$Division" "java/lang/Object") ∈ zx_T := zx_in 108 rfl rfl
theorem wd_77 : (Cond.classLink "BigDesk" (30 : Nat) "BigDesk$CommonDivisor") ∈ zx_T := zx_in 109 rfl rfl
theorem wd_78 : (Cond.instantiable "BigDesk$CommonDivisor" (6 : Nat)) ∈ zx_T := zx_in 110 rfl rfl
theorem wd_80 : (Cond.instanceMethod y_CD_init) ∈ zx_T := zx_in 112 rfl rfl
theorem wd_81 : (Cond.code y_CD_init prog_2_method_1_code (1 : Nat) (Option.none : Option FieldType)) ∈ zx_T := zx_in 113 rfl rfl
theorem wd_82 : (Cond.methodLink "BigDesk$CommonDivisor" (3 : Nat) (⟨"java/lang/Object", "<init>", "()V"⟩ : MethodName)) ∈ zx_T := zx_in 114 rfl rfl
theorem wd_83 : (Cond.classLink "BigDesk$CommonDivisor" (9 : Nat) "BigDesk$Whole") ∈ zx_T := zx_in 115 rfl rfl
theorem wd_85 : (Cond.fieldLink "BigDesk$CommonDivisor" (12 : Nat) "BigDesk$CommonDivisor" "larger" "LBigDesk$Whole;") ∈ zx_T := zx_in 117 rfl rfl
theorem wd_86 : (Cond.fieldLink "BigDesk$CommonDivisor" (18 : Nat) "BigDesk$CommonDivisor" "smaller" "LBigDesk$Whole;") ∈ zx_T := zx_in 118 rfl rfl
theorem wd_87 : (Cond.fieldLink "BigDesk$CommonDivisor" (78 : Nat) "BigDesk$CommonDivisor" "firstLarger" "J") ∈ zx_T := zx_in 119 rfl rfl
theorem wd_88 : (Cond.fieldLink "BigDesk$CommonDivisor" (82 : Nat) "BigDesk$CommonDivisor" "firstSmaller" "J") ∈ zx_T := zx_in 120 rfl rfl
theorem wd_89 : (Cond.fieldLink "BigDesk$CommonDivisor" (85 : Nat) "BigDesk$CommonDivisor" "secondLarger" "J") ∈ zx_T := zx_in 121 rfl rfl
theorem wd_90 : (Cond.fieldLink "BigDesk$CommonDivisor" (88 : Nat) "BigDesk$CommonDivisor" "secondSmaller" "J") ∈ zx_T := zx_in 122 rfl rfl
theorem wd_91 : (Cond.lays "BigDesk$CommonDivisor" "BigDesk$CommonDivisor" "larger" "LBigDesk$Whole;") ∈ zx_T := zx_in 123 rfl rfl
theorem wd_92 : (Cond.soleField "BigDesk$CommonDivisor" "larger") ∈ zx_T := zx_in 124 rfl rfl
theorem wd_93 : (Cond.lays "BigDesk$CommonDivisor" "BigDesk$CommonDivisor" "smaller" "LBigDesk$Whole;") ∈ zx_T := zx_in 125 rfl rfl
theorem wd_94 : (Cond.soleField "BigDesk$CommonDivisor" "smaller") ∈ zx_T := zx_in 126 rfl rfl
theorem wd_95 : (Cond.lays "BigDesk$CommonDivisor" "BigDesk$CommonDivisor" "firstLarger" "J") ∈ zx_T := zx_in 127 rfl rfl
theorem wd_96 : (Cond.soleField "BigDesk$CommonDivisor" "firstLarger") ∈ zx_T := zx_in 128 rfl rfl
theorem wd_97 : (Cond.lays "BigDesk$CommonDivisor" "BigDesk$CommonDivisor" "firstSmaller" "J") ∈ zx_T := zx_in 129 rfl rfl
theorem wd_98 : (Cond.soleField "BigDesk$CommonDivisor" "firstSmaller") ∈ zx_T := zx_in 130 rfl rfl
theorem wd_99 : (Cond.lays "BigDesk$CommonDivisor" "BigDesk$CommonDivisor" "secondLarger" "J") ∈ zx_T := zx_in 131 rfl rfl
theorem wd_100 : (Cond.soleField "BigDesk$CommonDivisor" "secondLarger") ∈ zx_T := zx_in 132 rfl rfl
theorem wd_101 : (Cond.lays "BigDesk$CommonDivisor" "BigDesk$CommonDivisor" "secondSmaller" "J") ∈ zx_T := zx_in 133 rfl rfl
theorem wd_102 : (Cond.soleField "BigDesk$CommonDivisor" "secondSmaller") ∈ zx_T := zx_in 134 rfl rfl
theorem wd_103 : (Cond.superclass "BigDesk$CommonDivisor" "java/lang/Object") ∈ zx_T := zx_in 135 rfl rfl
theorem wd_104 : (Cond.fieldLink "BigDesk" (11 : Nat) "BigDesk" "registers" "[LBigDesk$Whole;") ∈ zx_T := zx_in 136 rfl rfl
theorem wd_105 : (Cond.fieldLink "BigDesk" (16 : Nat) "BigDesk" "made" "LBigDesk$Whole;") ∈ zx_T := zx_in 137 rfl rfl
theorem wd_106 : (Cond.fieldLink "BigDesk" (20 : Nat) "BigDesk" "small" "LBigDesk$Whole;") ∈ zx_T := zx_in 138 rfl rfl
theorem wd_107 : (Cond.fieldLink "BigDesk" (26 : Nat) "BigDesk" "division" "LBigDesk$Division;") ∈ zx_T := zx_in 139 rfl rfl
theorem wd_108 : (Cond.fieldLink "BigDesk" (33 : Nat) "BigDesk" "commonDivisor" "LBigDesk$CommonDivisor;") ∈ zx_T := zx_in 140 rfl rfl
theorem wd_109 : (Cond.fieldLink "BigDesk" (37 : Nat) "BigDesk" "tape" "[B") ∈ zx_T := zx_in 141 rfl rfl
theorem wd_110 : (Cond.fieldLink "BigDesk" (41 : Nat) "BigDesk" "tapeLength" "I") ∈ zx_T := zx_in 142 rfl rfl
theorem wd_111 : (Cond.fieldLink "BigDesk" (45 : Nat) "BigDesk" "written" "[B") ∈ zx_T := zx_in 143 rfl rfl
theorem wd_112 : (Cond.fieldLink "BigDesk" (48 : Nat) "BigDesk" "writtenLength" "I") ∈ zx_T := zx_in 144 rfl rfl
theorem wd_113 : (Cond.laysFinal "BigDesk" "BigDesk" "registers" "[LBigDesk$Whole;") ∈ zx_T := zx_in 145 rfl rfl
theorem wd_114 : (Cond.soleField "BigDesk" "registers") ∈ zx_T := zx_in 146 rfl rfl
theorem wd_115 : (Cond.laysFinal "BigDesk" "BigDesk" "made" "LBigDesk$Whole;") ∈ zx_T := zx_in 147 rfl rfl
theorem wd_116 : (Cond.soleField "BigDesk" "made") ∈ zx_T := zx_in 148 rfl rfl
theorem wd_117 : (Cond.laysFinal "BigDesk" "BigDesk" "small" "LBigDesk$Whole;") ∈ zx_T := zx_in 149 rfl rfl
theorem wd_118 : (Cond.soleField "BigDesk" "small") ∈ zx_T := zx_in 150 rfl rfl
theorem wd_119 : (Cond.laysFinal "BigDesk" "BigDesk" "division" "LBigDesk$Division;") ∈ zx_T := zx_in 151 rfl rfl
theorem wd_120 : (Cond.soleField "BigDesk" "division") ∈ zx_T := zx_in 152 rfl rfl
theorem wd_121 : (Cond.laysFinal "BigDesk" "BigDesk" "commonDivisor" "LBigDesk$CommonDivisor;") ∈ zx_T := zx_in 153 rfl rfl
theorem wd_122 : (Cond.soleField "BigDesk" "commonDivisor") ∈ zx_T := zx_in 154 rfl rfl
theorem wd_123 : (Cond.laysFinal "BigDesk" "BigDesk" "tape" "[B") ∈ zx_T := zx_in 155 rfl rfl
theorem wd_124 : (Cond.soleField "BigDesk" "tape") ∈ zx_T := zx_in 156 rfl rfl
theorem wd_125 : (Cond.lays "BigDesk" "BigDesk" "tapeLength" "I") ∈ zx_T := zx_in 157 rfl rfl
theorem wd_126 : (Cond.soleField "BigDesk" "tapeLength") ∈ zx_T := zx_in 158 rfl rfl
theorem wd_127 : (Cond.laysFinal "BigDesk" "BigDesk" "written" "[B") ∈ zx_T := zx_in 159 rfl rfl
theorem wd_128 : (Cond.soleField "BigDesk" "written") ∈ zx_T := zx_in 160 rfl rfl
theorem wd_129 : (Cond.lays "BigDesk" "BigDesk" "writtenLength" "I") ∈ zx_T := zx_in 161 rfl rfl
theorem wd_130 : (Cond.soleField "BigDesk" "writtenLength") ∈ zx_T := zx_in 162 rfl rfl
theorem wd_131 : (Cond.superclass "BigDesk" "java/lang/Object") ∈ zx_T := zx_in 163 rfl rfl
theorem wd_132 : (Cond.arrayClass FieldType.byte) ∈ zx_T := zx_in 164 rfl rfl
theorem wd_133 : (Cond.methodLink "BigDeskLaw" (98 : Nat) y_LW_set) ∈ zx_T := zx_in 165 rfl rfl
theorem wd_134 : (Cond.static y_LW_set) ∈ zx_T := zx_in 166 rfl rfl
theorem wd_135 : (Cond.codeWith y_LW_set method_3_code (5 : Nat) (Option.some FieldType.int) [((0 : Nat), (6 : Nat), (9 : Nat), (13 : Nat))]) ∈ zx_T := zx_in 167 rfl rfl
theorem wd_136 : (Cond.classLink "BigDeskLaw" (13 : Nat) "java/lang/IllegalArgumentException") ∈ zx_T := zx_in 168 rfl rfl
theorem wd_137 : (Cond.methodLink "BigDeskLaw" (7 : Nat) y_BD_set) ∈ zx_T := zx_in 169 rfl rfl
theorem wd_138 : (Cond.instanceMethod y_BD_set) ∈ zx_T := zx_in 170 rfl rfl
theorem wd_139 : (Cond.selects "BigDesk" y_BD_set y_BD_set) ∈ zx_T := zx_in 171 rfl rfl
theorem wd_140 : (Cond.code y_BD_set prog_1_method_2_code (4 : Nat) (Option.none : Option FieldType)) ∈ zx_T := zx_in 172 rfl rfl
theorem wd_141 : (Cond.methodLink "BigDesk" (51 : Nat) y_BD_register) ∈ zx_T := zx_in 173 rfl rfl
theorem wd_143 : (Cond.instanceMethod y_BD_register) ∈ zx_T := zx_in 175 rfl rfl
theorem wd_144 : (Cond.code y_BD_register prog_1_method_23_code (2 : Nat) (Option.some (FieldType.object "BigDesk$Whole"))) ∈ zx_T := zx_in 176 rfl rfl
theorem wd_145 : (Cond.classLink "BigDesk" (112 : Nat) "java/lang/IllegalArgumentException") ∈ zx_T := zx_in 177 rfl rfl
theorem wd_146 : (Cond.instantiable "java/lang/IllegalArgumentException" (6 : Nat)) ∈ zx_T := zx_in 178 rfl rfl
theorem wd_154 : (Cond.selects "java/lang/IllegalArgumentException" (⟨"java/lang/Throwable", "fillInStackTrace", "(I)Ljava/lang/Throwable;"⟩ : MethodName) (⟨"java/lang/Throwable", "fillInStackTrace", "(I)Ljava/lang/Throwable;"⟩ : MethodName)) ∈ zx_T := zx_in 186 rfl rfl
theorem wd_155 : (Cond.selects "java/lang/IllegalArgumentException" (⟨"java/lang/Throwable", "fillInStackTrace", "()Ljava/lang/Throwable;"⟩ : MethodName) (⟨"java/lang/Throwable", "fillInStackTrace", "()Ljava/lang/Throwable;"⟩ : MethodName)) ∈ zx_T := zx_in 187 rfl rfl
theorem wd_156 : (Cond.lays "java/lang/IllegalArgumentException" "java/lang/Throwable" "cause" "Ljava/lang/Throwable;") ∈ zx_T := zx_in 188 rfl rfl
theorem wd_157 : (Cond.lays "java/lang/Throwable" "java/lang/Throwable" "cause" "Ljava/lang/Throwable;") ∈ zx_T := zx_in 189 rfl rfl
theorem wd_158 : (Cond.lays "java/lang/IllegalArgumentException" "java/lang/Throwable" "stackTrace" "[Ljava/lang/StackTraceElement;") ∈ zx_T := zx_in 190 rfl rfl
theorem wd_159 : (Cond.lays "java/lang/Throwable" "java/lang/Throwable" "stackTrace" "[Ljava/lang/StackTraceElement;") ∈ zx_T := zx_in 191 rfl rfl
theorem wd_160 : (Cond.lays "java/lang/IllegalArgumentException" "java/lang/Throwable" "suppressedExceptions" "Ljava/util/List;") ∈ zx_T := zx_in 192 rfl rfl
theorem wd_161 : (Cond.lays "java/lang/Throwable" "java/lang/Throwable" "suppressedExceptions" "Ljava/util/List;") ∈ zx_T := zx_in 193 rfl rfl
theorem wd_162 : (Cond.lays "java/lang/IllegalArgumentException" "java/lang/Throwable" "detailMessage" "Ljava/lang/String;") ∈ zx_T := zx_in 194 rfl rfl
theorem wd_163 : (Cond.lays "java/lang/Throwable" "java/lang/Throwable" "detailMessage" "Ljava/lang/String;") ∈ zx_T := zx_in 195 rfl rfl
theorem wd_164 : (Cond.lays "java/lang/IllegalArgumentException" "java/lang/Throwable" "backtrace" "Ljava/lang/Object;") ∈ zx_T := zx_in 196 rfl rfl
theorem wd_165 : (Cond.lays "java/lang/Throwable" "java/lang/Throwable" "backtrace" "Ljava/lang/Object;") ∈ zx_T := zx_in 197 rfl rfl
theorem wd_166 : (Cond.fieldLink "java/lang/Throwable" (198 : Nat) "java/lang/Throwable" "backtrace" "Ljava/lang/Object;") ∈ zx_T := zx_in 198 rfl rfl
theorem wd_167 : (Cond.superclass "java/lang/Throwable" "java/lang/Object") ∈ zx_T := zx_in 199 rfl rfl
theorem wd_168 : (Cond.instanceMethod (⟨"java/lang/Throwable", "<init>", "()V"⟩ : MethodName)) ∈ zx_T := zx_in 200 rfl rfl
theorem wd_169 : (Cond.code (⟨"java/lang/Throwable", "<init>", "()V"⟩ : MethodName) prog_18_method_1_code (1 : Nat) (Option.none : Option FieldType)) ∈ zx_T := zx_in 201 rfl rfl
theorem wd_170 : (Cond.methodLink "java/lang/Throwable" (1 : Nat) (⟨"java/lang/Object", "<init>", "()V"⟩ : MethodName)) ∈ zx_T := zx_in 202 rfl rfl
theorem wd_171 : (Cond.fieldLink "java/lang/Throwable" (13 : Nat) "java/lang/Throwable" "UNASSIGNED_STACK" "[Ljava/lang/StackTraceElement;") ∈ zx_T := zx_in 203 rfl rfl
theorem wd_173 : (Cond.fieldLink "java/lang/Throwable" (20 : Nat) "java/lang/Throwable" "SUPPRESSED_SENTINEL" "Ljava/util/List;") ∈ zx_T := zx_in 205 rfl rfl
theorem wd_175 : (Cond.methodLink "java/lang/Throwable" (27 : Nat) (⟨"java/lang/Throwable", "fillInStackTrace", "()Ljava/lang/Throwable;"⟩ : MethodName)) ∈ zx_T := zx_in 207 rfl rfl
theorem wd_176 : (Cond.instanceMethod (⟨"java/lang/Throwable", "fillInStackTrace", "()Ljava/lang/Throwable;"⟩ : MethodName)) ∈ zx_T := zx_in 208 rfl rfl
theorem wd_177 : (Cond.sameMethod "java/lang/Throwable" "java/lang/Throwable" "fillInStackTrace" "()Ljava/lang/Throwable;") ∈ zx_T := zx_in 209 rfl rfl
theorem wd_178 : (Cond.selects "java/lang/ArithmeticException" (⟨"java/lang/Throwable", "fillInStackTrace", "()Ljava/lang/Throwable;"⟩ : MethodName) (⟨"java/lang/Throwable", "fillInStackTrace", "()Ljava/lang/Throwable;"⟩ : MethodName)) ∈ zx_T := zx_in 210 rfl rfl
theorem wd_179 : (Cond.selects "java/lang/IllegalStateException" (⟨"java/lang/Throwable", "fillInStackTrace", "()Ljava/lang/Throwable;"⟩ : MethodName) (⟨"java/lang/Throwable", "fillInStackTrace", "()Ljava/lang/Throwable;"⟩ : MethodName)) ∈ zx_T := zx_in 211 rfl rfl
theorem wd_180 : (Cond.selects "java/util/NoSuchElementException" (⟨"java/lang/Throwable", "fillInStackTrace", "()Ljava/lang/Throwable;"⟩ : MethodName) (⟨"java/lang/Throwable", "fillInStackTrace", "()Ljava/lang/Throwable;"⟩ : MethodName)) ∈ zx_T := zx_in 212 rfl rfl
theorem wd_182 : (Cond.methodLink "java/lang/Throwable" (202 : Nat) (⟨"java/lang/Throwable", "fillInStackTrace", "(I)Ljava/lang/Throwable;"⟩ : MethodName)) ∈ zx_T := zx_in 214 rfl rfl
theorem wd_184 : (Cond.instanceMethod (⟨"java/lang/Throwable", "fillInStackTrace", "(I)Ljava/lang/Throwable;"⟩ : MethodName)) ∈ zx_T := zx_in 216 rfl rfl
theorem wd_185 : (Cond.instantiable "java/lang/Throwable" (6 : Nat)) ∈ zx_T := zx_in 217 rfl rfl
theorem wd_186 : (Cond.native (⟨"java/lang/Throwable", "fillInStackTrace", "(I)Ljava/lang/Throwable;"⟩ : MethodName)) ∈ zx_T := zx_in 218 rfl rfl
theorem wd_188 : (Cond.methodLink "BigDesk" (116 : Nat) (⟨"java/lang/IllegalArgumentException", "<init>", "(Ljava/lang/String;)V"⟩ : MethodName)) ∈ zx_T := zx_in 220 rfl rfl
theorem wd_189 : (Cond.instanceMethod (⟨"java/lang/IllegalArgumentException", "<init>", "(Ljava/lang/String;)V"⟩ : MethodName)) ∈ zx_T := zx_in 221 rfl rfl
theorem wd_190 : (Cond.code (⟨"java/lang/IllegalArgumentException", "<init>", "(Ljava/lang/String;)V"⟩ : MethodName) prog_11_method_2_code (2 : Nat) (Option.none : Option FieldType)) ∈ zx_T := zx_in 222 rfl rfl
theorem wd_191 : (Cond.methodLink "java/lang/IllegalArgumentException" (7 : Nat) (⟨"java/lang/RuntimeException", "<init>", "(Ljava/lang/String;)V"⟩ : MethodName)) ∈ zx_T := zx_in 223 rfl rfl
theorem wd_192 : (Cond.instanceMethod (⟨"java/lang/RuntimeException", "<init>", "(Ljava/lang/String;)V"⟩ : MethodName)) ∈ zx_T := zx_in 224 rfl rfl
theorem wd_193 : (Cond.code (⟨"java/lang/RuntimeException", "<init>", "(Ljava/lang/String;)V"⟩ : MethodName) prog_15_method_2_code (2 : Nat) (Option.none : Option FieldType)) ∈ zx_T := zx_in 225 rfl rfl
theorem wd_194 : (Cond.methodLink "java/lang/RuntimeException" (7 : Nat) (⟨"java/lang/Exception", "<init>", "(Ljava/lang/String;)V"⟩ : MethodName)) ∈ zx_T := zx_in 226 rfl rfl
theorem wd_195 : (Cond.instanceMethod (⟨"java/lang/Exception", "<init>", "(Ljava/lang/String;)V"⟩ : MethodName)) ∈ zx_T := zx_in 227 rfl rfl
theorem wd_196 : (Cond.code (⟨"java/lang/Exception", "<init>", "(Ljava/lang/String;)V"⟩ : MethodName) prog_10_method_2_code (2 : Nat) (Option.none : Option FieldType)) ∈ zx_T := zx_in 228 rfl rfl
theorem wd_197 : (Cond.methodLink "java/lang/Exception" (7 : Nat) (⟨"java/lang/Throwable", "<init>", "(Ljava/lang/String;)V"⟩ : MethodName)) ∈ zx_T := zx_in 229 rfl rfl
theorem wd_198 : (Cond.instanceMethod (⟨"java/lang/Throwable", "<init>", "(Ljava/lang/String;)V"⟩ : MethodName)) ∈ zx_T := zx_in 230 rfl rfl
theorem wd_199 : (Cond.code (⟨"java/lang/Throwable", "<init>", "(Ljava/lang/String;)V"⟩ : MethodName) prog_18_method_2_code (2 : Nat) (Option.none : Option FieldType)) ∈ zx_T := zx_in 231 rfl rfl
theorem wd_200 : (Cond.fieldLink "java/lang/Throwable" (198 : Nat) "java/lang/Throwable" "backtrace" "Ljava/lang/Object;") ∈ zx_T := zx_in 232 rfl rfl
theorem wd_201 : (Cond.fieldLink "java/lang/Throwable" (31 : Nat) "java/lang/Throwable" "detailMessage" "Ljava/lang/String;") ∈ zx_T := zx_in 233 rfl rfl
theorem wd_202 : (Cond.fieldLink "java/lang/Throwable" (7 : Nat) "java/lang/Throwable" "cause" "Ljava/lang/Throwable;") ∈ zx_T := zx_in 234 rfl rfl
theorem wd_203 : (Cond.fieldLink "java/lang/Throwable" (17 : Nat) "java/lang/Throwable" "stackTrace" "[Ljava/lang/StackTraceElement;") ∈ zx_T := zx_in 235 rfl rfl
theorem wd_204 : (Cond.fieldLink "java/lang/Throwable" (24 : Nat) "java/lang/Throwable" "suppressedExceptions" "Ljava/util/List;") ∈ zx_T := zx_in 236 rfl rfl
theorem wd_205 : (Cond.soleField "java/lang/Throwable" "backtrace") ∈ zx_T := zx_in 237 rfl rfl
theorem wd_206 : (Cond.soleField "java/lang/Throwable" "detailMessage") ∈ zx_T := zx_in 238 rfl rfl
theorem wd_207 : (Cond.soleField "java/lang/Throwable" "cause") ∈ zx_T := zx_in 239 rfl rfl
theorem wd_208 : (Cond.soleField "java/lang/Throwable" "stackTrace") ∈ zx_T := zx_in 240 rfl rfl
theorem wd_209 : (Cond.lays "java/lang/IllegalArgumentException" "java/lang/Throwable" "depth" "I") ∈ zx_T := zx_in 241 rfl rfl
theorem wd_210 : (Cond.soleField "java/lang/Throwable" "depth") ∈ zx_T := zx_in 242 rfl rfl
theorem wd_211 : (Cond.soleField "java/lang/Throwable" "suppressedExceptions") ∈ zx_T := zx_in 243 rfl rfl
theorem wd_212 : (Cond.superclass "java/lang/IllegalArgumentException" "java/lang/RuntimeException") ∈ zx_T := zx_in 244 rfl rfl
theorem wd_213 : (Cond.methodLink "BigDesk" (55 : Nat) y_WH_becomeLong) ∈ zx_T := zx_in 245 rfl rfl
theorem wd_214 : (Cond.instanceMethod y_WH_becomeLong) ∈ zx_T := zx_in 246 rfl rfl
theorem wd_215 : (Cond.selects "BigDesk$Whole" y_WH_becomeLong y_WH_becomeLong) ∈ zx_T := zx_in 247 rfl rfl
theorem wd_216 : (Cond.code y_WH_becomeLong prog_6_method_4_code (5 : Nat) (Option.none : Option FieldType)) ∈ zx_T := zx_in 248 rfl rfl
theorem wd_217 : (Cond.constantLong "BigDesk$Whole" (33 : Nat) (4294967295 : Int64)) ∈ zx_T := zx_in 249 rfl rfl
theorem wd_218 : (Cond.methodLink "BigDesk$Whole" (23 : Nat) y_WH_settle) ∈ zx_T := zx_in 250 rfl rfl
theorem wd_219 : (Cond.instanceMethod y_WH_settle) ∈ zx_T := zx_in 251 rfl rfl
theorem wd_220 : (Cond.selects "BigDesk$Whole" y_WH_settle y_WH_settle) ∈ zx_T := zx_in 252 rfl rfl
theorem wd_221 : (Cond.code y_WH_settle prog_6_method_7_code (3 : Nat) (Option.none : Option FieldType)) ∈ zx_T := zx_in 253 rfl rfl
theorem wd_222 : (Cond.methodLink "BigDesk$Whole" (35 : Nat) y_WH_markSign) ∈ zx_T := zx_in 254 rfl rfl
theorem wd_223 : (Cond.instanceMethod y_WH_markSign) ∈ zx_T := zx_in 255 rfl rfl
theorem wd_224 : (Cond.selects "BigDesk$Whole" y_WH_markSign y_WH_markSign) ∈ zx_T := zx_in 256 rfl rfl
theorem wd_225 : (Cond.code y_WH_markSign prog_6_method_8_code (2 : Nat) (Option.none : Option FieldType)) ∈ zx_T := zx_in 257 rfl rfl
theorem wd_226 : (Cond.methodLink "BigDeskLaw" (108 : Nat) y_LW_copy) ∈ zx_T := zx_in 258 rfl rfl
theorem wd_227 : (Cond.static y_LW_copy) ∈ zx_T := zx_in 259 rfl rfl
theorem wd_228 : (Cond.codeWith y_LW_copy method_4_code (4 : Nat) (Option.some FieldType.int) [((0 : Nat), (6 : Nat), (9 : Nat), (13 : Nat))]) ∈ zx_T := zx_in 260 rfl rfl
theorem wd_229 : (Cond.methodLink "BigDeskLaw" (15 : Nat) y_BD_copy) ∈ zx_T := zx_in 261 rfl rfl
theorem wd_230 : (Cond.instanceMethod y_BD_copy) ∈ zx_T := zx_in 262 rfl rfl
theorem wd_231 : (Cond.selects "BigDesk" y_BD_copy y_BD_copy) ∈ zx_T := zx_in 263 rfl rfl
theorem wd_232 : (Cond.code y_BD_copy prog_1_method_3_code (4 : Nat) (Option.none : Option FieldType)) ∈ zx_T := zx_in 264 rfl rfl
theorem wd_233 : (Cond.methodLink "BigDesk" (59 : Nat) y_WH_become) ∈ zx_T := zx_in 265 rfl rfl
theorem wd_234 : (Cond.instanceMethod y_WH_become) ∈ zx_T := zx_in 266 rfl rfl
theorem wd_235 : (Cond.selects "BigDesk$Whole" y_WH_become y_WH_become) ∈ zx_T := zx_in 267 rfl rfl
theorem wd_236 : (Cond.code y_WH_become prog_6_method_3_code (2 : Nat) (Option.none : Option FieldType)) ∈ zx_T := zx_in 268 rfl rfl
theorem wd_237 : (Cond.methodLink "BigDesk$Whole" (27 : Nat) (⟨"java/lang/System", "arraycopy", "(Ljava/lang/Object;ILjava/lang/Object;II)V"⟩ : MethodName)) ∈ zx_T := zx_in 269 rfl rfl
theorem wd_238 : (Cond.static (⟨"java/lang/System", "arraycopy", "(Ljava/lang/Object;ILjava/lang/Object;II)V"⟩ : MethodName)) ∈ zx_T := zx_in 270 rfl rfl
theorem wd_239 : (Cond.native (⟨"java/lang/System", "arraycopy", "(Ljava/lang/Object;ILjava/lang/Object;II)V"⟩ : MethodName)) ∈ zx_T := zx_in 271 rfl rfl
theorem wd_240 : (Cond.methodLink "BigDeskLaw" (112 : Nat) y_LW_add) ∈ zx_T := zx_in 272 rfl rfl
theorem wd_241 : (Cond.static y_LW_add) ∈ zx_T := zx_in 273 rfl rfl
theorem wd_242 : (Cond.codeWith y_LW_add method_5_code (5 : Nat) (Option.some FieldType.int) [((0 : Nat), (7 : Nat), (10 : Nat), (13 : Nat)), ((0 : Nat), (7 : Nat), (14 : Nat), (23 : Nat))]) ∈ zx_T := zx_in 274 rfl rfl
theorem wd_243 : (Cond.classLink "BigDeskLaw" (23 : Nat) "java/lang/IllegalStateException") ∈ zx_T := zx_in 275 rfl rfl
theorem wd_244 : (Cond.methodLink "BigDeskLaw" (19 : Nat) y_BD_add) ∈ zx_T := zx_in 276 rfl rfl
theorem wd_245 : (Cond.instanceMethod y_BD_add) ∈ zx_T := zx_in 277 rfl rfl
theorem wd_246 : (Cond.selects "BigDesk" y_BD_add y_BD_add) ∈ zx_T := zx_in 278 rfl rfl
theorem wd_247 : (Cond.code y_BD_add prog_1_method_4_code (5 : Nat) (Option.none : Option FieldType)) ∈ zx_T := zx_in 279 rfl rfl
theorem wd_248 : (Cond.methodLink "BigDesk" (63 : Nat) y_SU_total) ∈ zx_T := zx_in 280 rfl rfl
theorem wd_249 : (Cond.static y_SU_total) ∈ zx_T := zx_in 281 rfl rfl
theorem wd_250 : (Cond.code y_SU_total prog_4_method_2_code (5 : Nat) (Option.none : Option FieldType)) ∈ zx_T := zx_in 282 rfl rfl
theorem wd_251 : (Cond.methodLink "BigDesk$Sums" (15 : Nat) y_SU_sumOfAbsolutes) ∈ zx_T := zx_in 283 rfl rfl
theorem wd_252 : (Cond.static y_SU_sumOfAbsolutes) ∈ zx_T := zx_in 284 rfl rfl
theorem wd_253 : (Cond.code y_SU_sumOfAbsolutes prog_4_method_4_code (9 : Nat) (Option.none : Option FieldType)) ∈ zx_T := zx_in 285 rfl rfl
theorem wd_254 : (Cond.methodLink "BigDesk$Sums" (40 : Nat) y_JM_max) ∈ zx_T := zx_in 286 rfl rfl
theorem wd_255 : (Cond.static y_JM_max) ∈ zx_T := zx_in 287 rfl rfl
theorem wd_256 : (Cond.code y_JM_max prog_14_method_65_code (2 : Nat) (Option.some FieldType.int)) ∈ zx_T := zx_in 288 rfl rfl
theorem wd_257 : (Cond.methodLink "BigDesk$Sums" (46 : Nat) y_JM_min) ∈ zx_T := zx_in 289 rfl rfl
theorem wd_258 : (Cond.static y_JM_min) ∈ zx_T := zx_in 290 rfl rfl
theorem wd_259 : (Cond.code y_JM_min prog_14_method_69_code (2 : Nat) (Option.some FieldType.int)) ∈ zx_T := zx_in 291 rfl rfl
theorem wd_260 : (Cond.constantLong "BigDesk$Sums" (49 : Nat) (4294967295 : Int64)) ∈ zx_T := zx_in 292 rfl rfl
theorem wd_261 : (Cond.methodLink "BigDesk$Sums" (51 : Nat) y_WH_settle) ∈ zx_T := zx_in 293 rfl rfl
theorem wd_262 : (Cond.methodLink "BigDesk$Sums" (21 : Nat) y_WH_markSign) ∈ zx_T := zx_in 294 rfl rfl
theorem wd_263 : (Cond.methodLink "BigDesk$Sums" (25 : Nat) y_SU_orderOfAbsolutes) ∈ zx_T := zx_in 295 rfl rfl
theorem wd_264 : (Cond.static y_SU_orderOfAbsolutes) ∈ zx_T := zx_in 296 rfl rfl
theorem wd_265 : (Cond.code y_SU_orderOfAbsolutes prog_4_method_3_code (3 : Nat) (Option.some FieldType.int)) ∈ zx_T := zx_in 297 rfl rfl
theorem wd_266 : (Cond.methodLink "BigDesk$Sums" (29 : Nat) y_SU_differenceOfAbsolutes) ∈ zx_T := zx_in 298 rfl rfl
theorem wd_267 : (Cond.static y_SU_differenceOfAbsolutes) ∈ zx_T := zx_in 299 rfl rfl
theorem wd_268 : (Cond.code y_SU_differenceOfAbsolutes prog_4_method_5_code (9 : Nat) (Option.none : Option FieldType)) ∈ zx_T := zx_in 300 rfl rfl
theorem wd_269 : (Cond.methodLink "BigDesk" (69 : Nat) y_BD_keepMade) ∈ zx_T := zx_in 301 rfl rfl
theorem wd_271 : (Cond.instanceMethod y_BD_keepMade) ∈ zx_T := zx_in 303 rfl rfl
theorem wd_272 : (Cond.code y_BD_keepMade prog_1_method_26_code (2 : Nat) (Option.none : Option FieldType)) ∈ zx_T := zx_in 304 rfl rfl
theorem wd_273 : (Cond.methodLink "BigDesk" (80 : Nat) y_WH_bits) ∈ zx_T := zx_in 305 rfl rfl
theorem wd_274 : (Cond.instanceMethod y_WH_bits) ∈ zx_T := zx_in 306 rfl rfl
theorem wd_275 : (Cond.selects "BigDesk$Whole" y_WH_bits y_WH_bits) ∈ zx_T := zx_in 307 rfl rfl
theorem wd_276 : (Cond.code y_WH_bits prog_6_method_10_code (1 : Nat) (Option.some FieldType.int)) ∈ zx_T := zx_in 308 rfl rfl
theorem wd_277 : (Cond.methodLink "BigDesk$Whole" (52 : Nat) y_WH_bitsOf) ∈ zx_T := zx_in 309 rfl rfl
theorem wd_278 : (Cond.static y_WH_bitsOf) ∈ zx_T := zx_in 310 rfl rfl
theorem wd_279 : (Cond.code y_WH_bitsOf prog_6_method_19_code (3 : Nat) (Option.some FieldType.int)) ∈ zx_T := zx_in 311 rfl rfl
theorem wd_280 : (Cond.classLink "BigDesk" (84 : Nat) "java/lang/IllegalStateException") ∈ zx_T := zx_in 312 rfl rfl
theorem wd_281 : (Cond.instantiable "java/lang/IllegalStateException" (6 : Nat)) ∈ zx_T := zx_in 313 rfl rfl
theorem wd_283 : (Cond.selects "java/lang/IllegalStateException" (⟨"java/lang/Throwable", "fillInStackTrace", "(I)Ljava/lang/Throwable;"⟩ : MethodName) (⟨"java/lang/Throwable", "fillInStackTrace", "(I)Ljava/lang/Throwable;"⟩ : MethodName)) ∈ zx_T := zx_in 315 rfl rfl
theorem wd_284 : (Cond.lays "java/lang/IllegalStateException" "java/lang/Throwable" "cause" "Ljava/lang/Throwable;") ∈ zx_T := zx_in 316 rfl rfl
theorem wd_285 : (Cond.lays "java/lang/IllegalStateException" "java/lang/Throwable" "stackTrace" "[Ljava/lang/StackTraceElement;") ∈ zx_T := zx_in 317 rfl rfl
theorem wd_286 : (Cond.lays "java/lang/IllegalStateException" "java/lang/Throwable" "suppressedExceptions" "Ljava/util/List;") ∈ zx_T := zx_in 318 rfl rfl
theorem wd_287 : (Cond.lays "java/lang/IllegalStateException" "java/lang/Throwable" "detailMessage" "Ljava/lang/String;") ∈ zx_T := zx_in 319 rfl rfl
theorem wd_288 : (Cond.lays "java/lang/IllegalStateException" "java/lang/Throwable" "backtrace" "Ljava/lang/Object;") ∈ zx_T := zx_in 320 rfl rfl
theorem wd_290 : (Cond.methodLink "BigDesk" (88 : Nat) (⟨"java/lang/IllegalStateException", "<init>", "(Ljava/lang/String;)V"⟩ : MethodName)) ∈ zx_T := zx_in 322 rfl rfl
theorem wd_291 : (Cond.instanceMethod (⟨"java/lang/IllegalStateException", "<init>", "(Ljava/lang/String;)V"⟩ : MethodName)) ∈ zx_T := zx_in 323 rfl rfl
theorem wd_292 : (Cond.code (⟨"java/lang/IllegalStateException", "<init>", "(Ljava/lang/String;)V"⟩ : MethodName) prog_12_method_2_code (2 : Nat) (Option.none : Option FieldType)) ∈ zx_T := zx_in 324 rfl rfl
theorem wd_293 : (Cond.methodLink "java/lang/IllegalStateException" (7 : Nat) (⟨"java/lang/RuntimeException", "<init>", "(Ljava/lang/String;)V"⟩ : MethodName)) ∈ zx_T := zx_in 325 rfl rfl
theorem wd_294 : (Cond.lays "java/lang/IllegalStateException" "java/lang/Throwable" "depth" "I") ∈ zx_T := zx_in 326 rfl rfl
theorem wd_295 : (Cond.superclass "java/lang/IllegalStateException" "java/lang/RuntimeException") ∈ zx_T := zx_in 327 rfl rfl
theorem wd_296 : (Cond.methodLink "BigDeskLaw" (116 : Nat) y_LW_subtract) ∈ zx_T := zx_in 328 rfl rfl
theorem wd_297 : (Cond.static y_LW_subtract) ∈ zx_T := zx_in 329 rfl rfl
theorem wd_298 : (Cond.codeWith y_LW_subtract method_6_code (5 : Nat) (Option.some FieldType.int) [((0 : Nat), (7 : Nat), (10 : Nat), (13 : Nat)), ((0 : Nat), (7 : Nat), (14 : Nat), (23 : Nat))]) ∈ zx_T := zx_in 330 rfl rfl
theorem wd_299 : (Cond.methodLink "BigDeskLaw" (25 : Nat) y_BD_subtract) ∈ zx_T := zx_in 331 rfl rfl
theorem wd_300 : (Cond.instanceMethod y_BD_subtract) ∈ zx_T := zx_in 332 rfl rfl
theorem wd_301 : (Cond.selects "BigDesk" y_BD_subtract y_BD_subtract) ∈ zx_T := zx_in 333 rfl rfl
theorem wd_302 : (Cond.code y_BD_subtract prog_1_method_5_code (5 : Nat) (Option.none : Option FieldType)) ∈ zx_T := zx_in 334 rfl rfl
theorem wd_303 : (Cond.methodLink "BigDeskLaw" (119 : Nat) y_LW_multiply) ∈ zx_T := zx_in 335 rfl rfl
theorem wd_304 : (Cond.static y_LW_multiply) ∈ zx_T := zx_in 336 rfl rfl
theorem wd_305 : (Cond.codeWith y_LW_multiply method_7_code (5 : Nat) (Option.some FieldType.int) [((0 : Nat), (7 : Nat), (10 : Nat), (13 : Nat)), ((0 : Nat), (7 : Nat), (14 : Nat), (23 : Nat))]) ∈ zx_T := zx_in 337 rfl rfl
theorem wd_306 : (Cond.methodLink "BigDeskLaw" (28 : Nat) y_BD_multiply) ∈ zx_T := zx_in 338 rfl rfl
theorem wd_307 : (Cond.instanceMethod y_BD_multiply) ∈ zx_T := zx_in 339 rfl rfl
theorem wd_308 : (Cond.selects "BigDesk" y_BD_multiply y_BD_multiply) ∈ zx_T := zx_in 340 rfl rfl
theorem wd_309 : (Cond.code y_BD_multiply prog_1_method_6_code (5 : Nat) (Option.none : Option FieldType)) ∈ zx_T := zx_in 341 rfl rfl
theorem wd_310 : (Cond.methodLink "BigDesk" (72 : Nat) y_BD_keepProduct) ∈ zx_T := zx_in 342 rfl rfl
theorem wd_312 : (Cond.instanceMethod y_BD_keepProduct) ∈ zx_T := zx_in 344 rfl rfl
theorem wd_313 : (Cond.code y_BD_keepProduct prog_1_method_25_code (4 : Nat) (Option.none : Option FieldType)) ∈ zx_T := zx_in 345 rfl rfl
theorem wd_314 : (Cond.methodLink "BigDesk" (194 : Nat) y_SU_product) ∈ zx_T := zx_in 346 rfl rfl
theorem wd_315 : (Cond.static y_SU_product) ∈ zx_T := zx_in 347 rfl rfl
theorem wd_316 : (Cond.code y_SU_product prog_4_method_6_code (5 : Nat) (Option.some FieldType.boolean)) ∈ zx_T := zx_in 348 rfl rfl
theorem wd_317 : (Cond.methodLink "BigDesk$Sums" (55 : Nat) y_SU_addRow) ∈ zx_T := zx_in 349 rfl rfl
theorem wd_318 : (Cond.static y_SU_addRow) ∈ zx_T := zx_in 350 rfl rfl
theorem wd_319 : (Cond.code y_SU_addRow prog_4_method_7_code (12 : Nat) (Option.none : Option FieldType)) ∈ zx_T := zx_in 351 rfl rfl
theorem wd_320 : (Cond.methodLink "BigDeskLaw" (122 : Nat) y_LW_times) ∈ zx_T := zx_in 352 rfl rfl
theorem wd_321 : (Cond.static y_LW_times) ∈ zx_T := zx_in 353 rfl rfl
theorem wd_322 : (Cond.codeWith y_LW_times method_8_code (6 : Nat) (Option.some FieldType.int) [((0 : Nat), (7 : Nat), (10 : Nat), (13 : Nat)), ((0 : Nat), (7 : Nat), (14 : Nat), (23 : Nat))]) ∈ zx_T := zx_in 354 rfl rfl
theorem wd_323 : (Cond.methodLink "BigDeskLaw" (31 : Nat) y_BD_times) ∈ zx_T := zx_in 355 rfl rfl
theorem wd_324 : (Cond.instanceMethod y_BD_times) ∈ zx_T := zx_in 356 rfl rfl
theorem wd_325 : (Cond.selects "BigDesk" y_BD_times y_BD_times) ∈ zx_T := zx_in 357 rfl rfl
theorem wd_326 : (Cond.code y_BD_times prog_1_method_7_code (7 : Nat) (Option.none : Option FieldType)) ∈ zx_T := zx_in 358 rfl rfl
theorem wd_327 : (Cond.methodLink "BigDeskLaw" (126 : Nat) y_LW_shift) ∈ zx_T := zx_in 359 rfl rfl
theorem wd_328 : (Cond.static y_LW_shift) ∈ zx_T := zx_in 360 rfl rfl
theorem wd_329 : (Cond.codeWith y_LW_shift method_9_code (5 : Nat) (Option.some FieldType.int) [((0 : Nat), (7 : Nat), (10 : Nat), (13 : Nat)), ((0 : Nat), (7 : Nat), (14 : Nat), (23 : Nat))]) ∈ zx_T := zx_in 361 rfl rfl
theorem wd_330 : (Cond.methodLink "BigDeskLaw" (35 : Nat) y_BD_shift) ∈ zx_T := zx_in 362 rfl rfl
theorem wd_331 : (Cond.instanceMethod y_BD_shift) ∈ zx_T := zx_in 363 rfl rfl
theorem wd_332 : (Cond.selects "BigDesk" y_BD_shift y_BD_shift) ∈ zx_T := zx_in 364 rfl rfl
theorem wd_333 : (Cond.code y_BD_shift prog_1_method_8_code (6 : Nat) (Option.none : Option FieldType)) ∈ zx_T := zx_in 365 rfl rfl
theorem wd_334 : (Cond.methodLink "BigDesk" (76 : Nat) y_BD_requireShift) ∈ zx_T := zx_in 366 rfl rfl
theorem wd_335 : (Cond.static y_BD_requireShift) ∈ zx_T := zx_in 367 rfl rfl
theorem wd_336 : (Cond.code y_BD_requireShift prog_1_method_24_code (1 : Nat) (Option.none : Option FieldType)) ∈ zx_T := zx_in 368 rfl rfl
theorem wd_338 : (Cond.methodLink "BigDesk" (91 : Nat) y_WH_becomeShiftedUp) ∈ zx_T := zx_in 370 rfl rfl
theorem wd_339 : (Cond.instanceMethod y_WH_becomeShiftedUp) ∈ zx_T := zx_in 371 rfl rfl
theorem wd_340 : (Cond.selects "BigDesk$Whole" y_WH_becomeShiftedUp y_WH_becomeShiftedUp) ∈ zx_T := zx_in 372 rfl rfl
theorem wd_341 : (Cond.code y_WH_becomeShiftedUp prog_6_method_5_code (9 : Nat) (Option.none : Option FieldType)) ∈ zx_T := zx_in 373 rfl rfl
theorem wd_342 : (Cond.methodLink "BigDesk$Whole" (39 : Nat) y_JM_min) ∈ zx_T := zx_in 374 rfl rfl
theorem wd_343 : (Cond.methodLink "BigDesk$Whole" (45 : Nat) y_WH_at) ∈ zx_T := zx_in 375 rfl rfl
theorem wd_344 : (Cond.instanceMethod y_WH_at) ∈ zx_T := zx_in 376 rfl rfl
theorem wd_345 : (Cond.selects "BigDesk$Whole" y_WH_at y_WH_at) ∈ zx_T := zx_in 377 rfl rfl
theorem wd_346 : (Cond.code y_WH_at prog_6_method_9_code (2 : Nat) (Option.some FieldType.long)) ∈ zx_T := zx_in 378 rfl rfl
theorem wd_347 : (Cond.methodLink "BigDesk" (99 : Nat) y_WH_markSign) ∈ zx_T := zx_in 379 rfl rfl
theorem wd_348 : (Cond.methodLink "BigDeskLaw" (129 : Nat) y_LW_half) ∈ zx_T := zx_in 380 rfl rfl
theorem wd_349 : (Cond.static y_LW_half) ∈ zx_T := zx_in 381 rfl rfl
theorem wd_350 : (Cond.codeWith y_LW_half method_10_code (5 : Nat) (Option.some FieldType.int) [((0 : Nat), (7 : Nat), (10 : Nat), (13 : Nat))]) ∈ zx_T := zx_in 382 rfl rfl
theorem wd_351 : (Cond.methodLink "BigDeskLaw" (38 : Nat) y_BD_half) ∈ zx_T := zx_in 383 rfl rfl
theorem wd_352 : (Cond.instanceMethod y_BD_half) ∈ zx_T := zx_in 384 rfl rfl
theorem wd_353 : (Cond.selects "BigDesk" y_BD_half y_BD_half) ∈ zx_T := zx_in 385 rfl rfl
theorem wd_354 : (Cond.code y_BD_half prog_1_method_9_code (6 : Nat) (Option.none : Option FieldType)) ∈ zx_T := zx_in 386 rfl rfl
theorem wd_355 : (Cond.methodLink "BigDesk" (103 : Nat) y_WH_becomeShiftedDown) ∈ zx_T := zx_in 387 rfl rfl
theorem wd_356 : (Cond.instanceMethod y_WH_becomeShiftedDown) ∈ zx_T := zx_in 388 rfl rfl
theorem wd_357 : (Cond.selects "BigDesk$Whole" y_WH_becomeShiftedDown y_WH_becomeShiftedDown) ∈ zx_T := zx_in 389 rfl rfl
theorem wd_358 : (Cond.code y_WH_becomeShiftedDown prog_6_method_6_code (9 : Nat) (Option.none : Option FieldType)) ∈ zx_T := zx_in 390 rfl rfl
theorem wd_359 : (Cond.methodLink "BigDesk$Whole" (49 : Nat) y_JM_max) ∈ zx_T := zx_in 391 rfl rfl
theorem wd_360 : (Cond.methodLink "BigDesk" (106 : Nat) y_WH_endingZeros) ∈ zx_T := zx_in 392 rfl rfl
theorem wd_361 : (Cond.instanceMethod y_WH_endingZeros) ∈ zx_T := zx_in 393 rfl rfl
theorem wd_362 : (Cond.selects "BigDesk$Whole" y_WH_endingZeros y_WH_endingZeros) ∈ zx_T := zx_in 394 rfl rfl
theorem wd_363 : (Cond.code y_WH_endingZeros prog_6_method_11_code (4 : Nat) (Option.some FieldType.int)) ∈ zx_T := zx_in 395 rfl rfl
theorem wd_364 : (Cond.constantLong "BigDesk$Whole" (56 : Nat) (-1 : Int64)) ∈ zx_T := zx_in 396 rfl rfl
theorem wd_365 : (Cond.methodLink "BigDesk$Whole" (58 : Nat) y_JL_bitCount) ∈ zx_T := zx_in 397 rfl rfl
theorem wd_366 : (Cond.static y_JL_bitCount) ∈ zx_T := zx_in 398 rfl rfl
theorem wd_367 : (Cond.code y_JL_bitCount prog_13_method_50_code (2 : Nat) (Option.some FieldType.int)) ∈ zx_T := zx_in 399 rfl rfl
theorem wd_368 : (Cond.constantLong "java/lang/Long" (314 : Nat) (6148914691236517205 : Int64)) ∈ zx_T := zx_in 400 rfl rfl
theorem wd_369 : (Cond.constantLong "java/lang/Long" (316 : Nat) (3689348814741910323 : Int64)) ∈ zx_T := zx_in 401 rfl rfl
theorem wd_370 : (Cond.constantLong "java/lang/Long" (318 : Nat) (1085102592571150095 : Int64)) ∈ zx_T := zx_in 402 rfl rfl
theorem wd_371 : (Cond.methodLink "BigDesk" (109 : Nat) y_WH_addOne) ∈ zx_T := zx_in 403 rfl rfl
theorem wd_372 : (Cond.instanceMethod y_WH_addOne) ∈ zx_T := zx_in 404 rfl rfl
theorem wd_373 : (Cond.selects "BigDesk$Whole" y_WH_addOne y_WH_addOne) ∈ zx_T := zx_in 405 rfl rfl
theorem wd_374 : (Cond.code y_WH_addOne prog_6_method_16_code (2 : Nat) (Option.none : Option FieldType)) ∈ zx_T := zx_in 406 rfl rfl
theorem wd_375 : (Cond.methodLink "BigDeskLaw" (132 : Nat) y_LW_divide) ∈ zx_T := zx_in 407 rfl rfl
theorem wd_376 : (Cond.static y_LW_divide) ∈ zx_T := zx_in 408 rfl rfl
theorem wd_377 : (Cond.codeWith y_LW_divide method_11_code (6 : Nat) (Option.some FieldType.int) [((0 : Nat), (9 : Nat), (12 : Nat), (13 : Nat)), ((0 : Nat), (9 : Nat), (16 : Nat), (45 : Nat))]) ∈ zx_T := zx_in 409 rfl rfl
theorem wd_378 : (Cond.classLink "BigDeskLaw" (45 : Nat) "java/lang/ArithmeticException") ∈ zx_T := zx_in 410 rfl rfl
theorem wd_379 : (Cond.methodLink "BigDeskLaw" (41 : Nat) y_BD_divide) ∈ zx_T := zx_in 411 rfl rfl
theorem wd_380 : (Cond.instanceMethod y_BD_divide) ∈ zx_T := zx_in 412 rfl rfl
set_option maxRecDepth 20000 in
theorem wd_381 : (Cond.selects "BigDesk" y_BD_divide y_BD_divide) ∈ zx_T := zx_in 413 rfl rfl
set_option maxRecDepth 20000 in
theorem wd_382 : (Cond.code y_BD_divide prog_1_method_10_code (9 : Nat) (Option.none : Option FieldType)) ∈ zx_T := zx_in 414 rfl rfl
set_option maxRecDepth 20000 in
theorem wd_384 : (Cond.classLink "BigDesk" (120 : Nat) "java/lang/ArithmeticException") ∈ zx_T := zx_in 416 rfl rfl
set_option maxRecDepth 20000 in
theorem wd_385 : (Cond.instantiable "java/lang/ArithmeticException" (6 : Nat)) ∈ zx_T := zx_in 417 rfl rfl
set_option maxRecDepth 20000 in
theorem wd_387 : (Cond.selects "java/lang/ArithmeticException" (⟨"java/lang/Throwable", "fillInStackTrace", "(I)Ljava/lang/Throwable;"⟩ : MethodName) (⟨"java/lang/Throwable", "fillInStackTrace", "(I)Ljava/lang/Throwable;"⟩ : MethodName)) ∈ zx_T := zx_in 419 rfl rfl
set_option maxRecDepth 20000 in
theorem wd_388 : (Cond.lays "java/lang/ArithmeticException" "java/lang/Throwable" "cause" "Ljava/lang/Throwable;") ∈ zx_T := zx_in 420 rfl rfl
set_option maxRecDepth 20000 in
theorem wd_389 : (Cond.lays "java/lang/ArithmeticException" "java/lang/Throwable" "stackTrace" "[Ljava/lang/StackTraceElement;") ∈ zx_T := zx_in 421 rfl rfl
set_option maxRecDepth 20000 in
theorem wd_390 : (Cond.lays "java/lang/ArithmeticException" "java/lang/Throwable" "suppressedExceptions" "Ljava/util/List;") ∈ zx_T := zx_in 422 rfl rfl
set_option maxRecDepth 20000 in
theorem wd_391 : (Cond.lays "java/lang/ArithmeticException" "java/lang/Throwable" "detailMessage" "Ljava/lang/String;") ∈ zx_T := zx_in 423 rfl rfl
set_option maxRecDepth 20000 in
theorem wd_392 : (Cond.lays "java/lang/ArithmeticException" "java/lang/Throwable" "backtrace" "Ljava/lang/Object;") ∈ zx_T := zx_in 424 rfl rfl
set_option maxRecDepth 20000 in
theorem wd_394 : (Cond.methodLink "BigDesk" (124 : Nat) (⟨"java/lang/ArithmeticException", "<init>", "(Ljava/lang/String;)V"⟩ : MethodName)) ∈ zx_T := zx_in 426 rfl rfl
set_option maxRecDepth 20000 in
theorem wd_395 : (Cond.instanceMethod (⟨"java/lang/ArithmeticException", "<init>", "(Ljava/lang/String;)V"⟩ : MethodName)) ∈ zx_T := zx_in 427 rfl rfl
set_option maxRecDepth 20000 in
theorem wd_396 : (Cond.code (⟨"java/lang/ArithmeticException", "<init>", "(Ljava/lang/String;)V"⟩ : MethodName) prog_9_method_2_code (2 : Nat) (Option.none : Option FieldType)) ∈ zx_T := zx_in 428 rfl rfl
set_option maxRecDepth 20000 in
theorem wd_397 : (Cond.methodLink "java/lang/ArithmeticException" (7 : Nat) (⟨"java/lang/RuntimeException", "<init>", "(Ljava/lang/String;)V"⟩ : MethodName)) ∈ zx_T := zx_in 429 rfl rfl
set_option maxRecDepth 20000 in
theorem wd_398 : (Cond.lays "java/lang/ArithmeticException" "java/lang/Throwable" "depth" "I") ∈ zx_T := zx_in 430 rfl rfl
set_option maxRecDepth 20000 in
theorem wd_399 : (Cond.superclass "java/lang/ArithmeticException" "java/lang/RuntimeException") ∈ zx_T := zx_in 431 rfl rfl
set_option maxRecDepth 20000 in
theorem wd_400 : (Cond.methodLink "BigDesk" (125 : Nat) y_DV_downwards) ∈ zx_T := zx_in 432 rfl rfl
set_option maxRecDepth 20000 in
theorem wd_401 : (Cond.instanceMethod y_DV_downwards) ∈ zx_T := zx_in 433 rfl rfl
set_option maxRecDepth 20000 in
theorem wd_402 : (Cond.selects "BigDesk$Division" y_DV_downwards y_DV_downwards) ∈ zx_T := zx_in 434 rfl rfl
set_option maxRecDepth 20000 in
theorem wd_403 : (Cond.code y_DV_downwards prog_3_method_2_code (4 : Nat) (Option.none : Option FieldType)) ∈ zx_T := zx_in 435 rfl rfl
set_option maxRecDepth 20000 in
theorem wd_404 : (Cond.methodLink "BigDesk$Division" (24 : Nat) y_DV_ofAbsolutes) ∈ zx_T := zx_in 436 rfl rfl
set_option maxRecDepth 20000 in
theorem wd_405 : (Cond.instanceMethod y_DV_ofAbsolutes) ∈ zx_T := zx_in 437 rfl rfl
set_option maxRecDepth 20000 in
theorem wd_406 : (Cond.selects "BigDesk$Division" y_DV_ofAbsolutes y_DV_ofAbsolutes) ∈ zx_T := zx_in 438 rfl rfl
set_option maxRecDepth 20000 in
theorem wd_407 : (Cond.code y_DV_ofAbsolutes prog_3_method_3_code (6 : Nat) (Option.none : Option FieldType)) ∈ zx_T := zx_in 439 rfl rfl
set_option maxRecDepth 20000 in
theorem wd_408 : (Cond.methodLink "BigDesk$Division" (49 : Nat) y_WH_clear) ∈ zx_T := zx_in 440 rfl rfl
set_option maxRecDepth 20000 in
theorem wd_409 : (Cond.instanceMethod y_WH_clear) ∈ zx_T := zx_in 441 rfl rfl
set_option maxRecDepth 20000 in
theorem wd_410 : (Cond.selects "BigDesk$Whole" y_WH_clear y_WH_clear) ∈ zx_T := zx_in 442 rfl rfl
set_option maxRecDepth 20000 in
theorem wd_411 : (Cond.code y_WH_clear prog_6_method_2_code (1 : Nat) (Option.none : Option FieldType)) ∈ zx_T := zx_in 443 rfl rfl
set_option maxRecDepth 20000 in
theorem wd_412 : (Cond.methodLink "BigDesk$Division" (56 : Nat) y_WH_bitsOf) ∈ zx_T := zx_in 444 rfl rfl
set_option maxRecDepth 20000 in
theorem wd_413 : (Cond.methodLink "BigDesk$Division" (60 : Nat) y_WH_becomeShiftedUp) ∈ zx_T := zx_in 445 rfl rfl
set_option maxRecDepth 20000 in
theorem wd_414 : (Cond.methodLink "BigDesk$Division" (64 : Nat) y_DV_nextLimb) ∈ zx_T := zx_in 446 rfl rfl
set_option maxRecDepth 20000 in
theorem wd_416 : (Cond.instanceMethod y_DV_nextLimb) ∈ zx_T := zx_in 448 rfl rfl
set_option maxRecDepth 20000 in
theorem wd_417 : (Cond.code y_DV_nextLimb prog_3_method_4_code (4 : Nat) (Option.some FieldType.long)) ∈ zx_T := zx_in 449 rfl rfl
set_option maxRecDepth 20000 in
theorem wd_418 : (Cond.methodLink "BigDesk$Division" (81 : Nat) y_DV_guessLimb) ∈ zx_T := zx_in 450 rfl rfl
set_option maxRecDepth 20000 in
theorem wd_420 : (Cond.instanceMethod y_DV_guessLimb) ∈ zx_T := zx_in 452 rfl rfl
set_option maxRecDepth 20000 in
theorem wd_421 : (Cond.code y_DV_guessLimb prog_3_method_5_code (18 : Nat) (Option.some FieldType.long)) ∈ zx_T := zx_in 453 rfl rfl
set_option maxRecDepth 20000 in
theorem wd_422 : (Cond.methodLink "BigDesk$Division" (91 : Nat) y_WH_at) ∈ zx_T := zx_in 454 rfl rfl
set_option maxRecDepth 20000 in
theorem wd_423 : (Cond.constantLong "BigDesk$Division" (94 : Nat) (4294967295 : Int64)) ∈ zx_T := zx_in 455 rfl rfl
set_option maxRecDepth 20000 in
theorem wd_424 : (Cond.methodLink "BigDesk$Division" (96 : Nat) y_DV_unsignedQuotient) ∈ zx_T := zx_in 456 rfl rfl
set_option maxRecDepth 20000 in
theorem wd_425 : (Cond.static y_DV_unsignedQuotient) ∈ zx_T := zx_in 457 rfl rfl
set_option maxRecDepth 20000 in
theorem wd_426 : (Cond.code y_DV_unsignedQuotient prog_3_method_6_code (6 : Nat) (Option.some FieldType.long)) ∈ zx_T := zx_in 458 rfl rfl
set_option maxRecDepth 20000 in
theorem wd_427 : (Cond.constantLong "BigDesk$Division" (102 : Nat) (-9223372036854775808 : Int64)) ∈ zx_T := zx_in 459 rfl rfl
set_option maxRecDepth 20000 in
theorem wd_428 : (Cond.methodLink "BigDesk$Division" (84 : Nat) y_DV_takeAway) ∈ zx_T := zx_in 460 rfl rfl
set_option maxRecDepth 20000 in
theorem wd_430 : (Cond.instanceMethod y_DV_takeAway) ∈ zx_T := zx_in 462 rfl rfl
set_option maxRecDepth 20000 in
theorem wd_431 : (Cond.code y_DV_takeAway prog_3_method_7_code (14 : Nat) (Option.some FieldType.boolean)) ∈ zx_T := zx_in 463 rfl rfl
set_option maxRecDepth 20000 in
theorem wd_432 : (Cond.methodLink "BigDesk$Division" (88 : Nat) y_DV_putBack) ∈ zx_T := zx_in 464 rfl rfl
set_option maxRecDepth 20000 in
theorem wd_434 : (Cond.instanceMethod y_DV_putBack) ∈ zx_T := zx_in 466 rfl rfl
set_option maxRecDepth 20000 in
theorem wd_435 : (Cond.code y_DV_putBack prog_3_method_8_code (9 : Nat) (Option.none : Option FieldType)) ∈ zx_T := zx_in 467 rfl rfl
set_option maxRecDepth 20000 in
theorem wd_436 : (Cond.methodLink "BigDesk$Division" (68 : Nat) y_JM_max) ∈ zx_T := zx_in 468 rfl rfl
set_option maxRecDepth 20000 in
theorem wd_437 : (Cond.methodLink "BigDesk$Division" (74 : Nat) y_WH_settle) ∈ zx_T := zx_in 469 rfl rfl
set_option maxRecDepth 20000 in
theorem wd_438 : (Cond.methodLink "BigDesk$Division" (78 : Nat) y_WH_becomeShiftedDown) ∈ zx_T := zx_in 470 rfl rfl
set_option maxRecDepth 20000 in
theorem wd_439 : (Cond.methodLink "BigDesk$Division" (36 : Nat) y_WH_addOne) ∈ zx_T := zx_in 471 rfl rfl
set_option maxRecDepth 20000 in
theorem wd_440 : (Cond.methodLink "BigDesk$Division" (39 : Nat) y_SU_differenceOfAbsolutes) ∈ zx_T := zx_in 472 rfl rfl
set_option maxRecDepth 20000 in
theorem wd_441 : (Cond.methodLink "BigDesk$Division" (45 : Nat) y_WH_markSign) ∈ zx_T := zx_in 473 rfl rfl
set_option maxRecDepth 20000 in
theorem wd_442 : (Cond.methodLink "BigDeskLaw" (136 : Nat) y_LW_gcd) ∈ zx_T := zx_in 474 rfl rfl
set_option maxRecDepth 20000 in
theorem wd_443 : (Cond.static y_LW_gcd) ∈ zx_T := zx_in 475 rfl rfl
set_option maxRecDepth 20000 in
theorem wd_444 : (Cond.codeWith y_LW_gcd method_12_code (5 : Nat) (Option.some FieldType.int) [((0 : Nat), (7 : Nat), (10 : Nat), (13 : Nat))]) ∈ zx_T := zx_in 476 rfl rfl
set_option maxRecDepth 20000 in
theorem wd_445 : (Cond.methodLink "BigDeskLaw" (47 : Nat) y_BD_gcd) ∈ zx_T := zx_in 477 rfl rfl
set_option maxRecDepth 20000 in
theorem wd_446 : (Cond.instanceMethod y_BD_gcd) ∈ zx_T := zx_in 478 rfl rfl
set_option maxRecDepth 20000 in
theorem wd_447 : (Cond.selects "BigDesk" y_BD_gcd y_BD_gcd) ∈ zx_T := zx_in 479 rfl rfl
set_option maxRecDepth 20000 in
theorem wd_448 : (Cond.code y_BD_gcd prog_1_method_11_code (5 : Nat) (Option.none : Option FieldType)) ∈ zx_T := zx_in 480 rfl rfl
set_option maxRecDepth 20000 in
theorem wd_449 : (Cond.methodLink "BigDesk" (135 : Nat) y_CD_greatest) ∈ zx_T := zx_in 481 rfl rfl
set_option maxRecDepth 20000 in
theorem wd_450 : (Cond.instanceMethod y_CD_greatest) ∈ zx_T := zx_in 482 rfl rfl
set_option maxRecDepth 20000 in
theorem wd_451 : (Cond.selects "BigDesk$CommonDivisor" y_CD_greatest y_CD_greatest) ∈ zx_T := zx_in 483 rfl rfl
set_option maxRecDepth 20000 in
theorem wd_452 : (Cond.code y_CD_greatest prog_2_method_2_code (5 : Nat) (Option.some (FieldType.object "BigDesk$Whole"))) ∈ zx_T := zx_in 484 rfl rfl
set_option maxRecDepth 20000 in
theorem wd_453 : (Cond.methodLink "BigDesk$CommonDivisor" (21 : Nat) y_WH_become) ∈ zx_T := zx_in 485 rfl rfl
set_option maxRecDepth 20000 in
theorem wd_454 : (Cond.methodLink "BigDesk$CommonDivisor" (25 : Nat) y_SU_orderOfAbsolutes) ∈ zx_T := zx_in 486 rfl rfl
set_option maxRecDepth 20000 in
theorem wd_455 : (Cond.methodLink "BigDesk$CommonDivisor" (31 : Nat) y_CD_exchange) ∈ zx_T := zx_in 487 rfl rfl
set_option maxRecDepth 20000 in
theorem wd_457 : (Cond.instanceMethod y_CD_exchange) ∈ zx_T := zx_in 489 rfl rfl
set_option maxRecDepth 20000 in
theorem wd_458 : (Cond.code y_CD_exchange prog_2_method_3_code (2 : Nat) (Option.none : Option FieldType)) ∈ zx_T := zx_in 490 rfl rfl
set_option maxRecDepth 20000 in
theorem wd_459 : (Cond.methodLink "BigDesk$CommonDivisor" (34 : Nat) y_WH_markSign) ∈ zx_T := zx_in 491 rfl rfl
set_option maxRecDepth 20000 in
theorem wd_460 : (Cond.methodLink "BigDesk$CommonDivisor" (42 : Nat) y_CD_foretell) ∈ zx_T := zx_in 492 rfl rfl
set_option maxRecDepth 20000 in
theorem wd_462 : (Cond.instanceMethod y_CD_foretell) ∈ zx_T := zx_in 494 rfl rfl
set_option maxRecDepth 20000 in
theorem wd_463 : (Cond.code y_CD_foretell prog_2_method_4_code (23 : Nat) (Option.some FieldType.boolean)) ∈ zx_T := zx_in 495 rfl rfl
set_option maxRecDepth 20000 in
theorem wd_464 : (Cond.methodLink "BigDesk$CommonDivisor" (58 : Nat) y_WH_bits) ∈ zx_T := zx_in 496 rfl rfl
set_option maxRecDepth 20000 in
theorem wd_465 : (Cond.methodLink "BigDesk$CommonDivisor" (62 : Nat) y_JM_max) ∈ zx_T := zx_in 497 rfl rfl
set_option maxRecDepth 20000 in
theorem wd_466 : (Cond.methodLink "BigDesk$CommonDivisor" (68 : Nat) y_WH_longFrom) ∈ zx_T := zx_in 498 rfl rfl
set_option maxRecDepth 20000 in
theorem wd_467 : (Cond.instanceMethod y_WH_longFrom) ∈ zx_T := zx_in 499 rfl rfl
set_option maxRecDepth 20000 in
theorem wd_468 : (Cond.selects "BigDesk$Whole" y_WH_longFrom y_WH_longFrom) ∈ zx_T := zx_in 500 rfl rfl
set_option maxRecDepth 20000 in
theorem wd_469 : (Cond.code y_WH_longFrom prog_6_method_15_code (6 : Nat) (Option.some FieldType.long)) ∈ zx_T := zx_in 501 rfl rfl
set_option maxRecDepth 20000 in
theorem wd_470 : (Cond.constantLong "BigDesk$CommonDivisor" (72 : Nat) (2147483647 : Int64)) ∈ zx_T := zx_in 502 rfl rfl
set_option maxRecDepth 20000 in
theorem wd_471 : (Cond.methodLink "BigDesk$CommonDivisor" (74 : Nat) y_JM_abs) ∈ zx_T := zx_in 503 rfl rfl
set_option maxRecDepth 20000 in
theorem wd_472 : (Cond.static y_JM_abs) ∈ zx_T := zx_in 504 rfl rfl
set_option maxRecDepth 20000 in
theorem wd_473 : (Cond.code y_JM_abs prog_14_method_61_code (2 : Nat) (Option.some FieldType.long)) ∈ zx_T := zx_in 505 rfl rfl
set_option maxRecDepth 20000 in
theorem wd_474 : (Cond.methodLink "BigDesk$CommonDivisor" (46 : Nat) y_CD_combine) ∈ zx_T := zx_in 506 rfl rfl
set_option maxRecDepth 20000 in
theorem wd_476 : (Cond.instanceMethod y_CD_combine) ∈ zx_T := zx_in 508 rfl rfl
set_option maxRecDepth 20000 in
theorem wd_477 : (Cond.code y_CD_combine prog_2_method_5_code (13 : Nat) (Option.none : Option FieldType)) ∈ zx_T := zx_in 509 rfl rfl
set_option maxRecDepth 20000 in
theorem wd_478 : (Cond.constantLong "BigDesk$CommonDivisor" (95 : Nat) (4294967295 : Int64)) ∈ zx_T := zx_in 510 rfl rfl
set_option maxRecDepth 20000 in
theorem wd_479 : (Cond.methodLink "BigDesk$CommonDivisor" (97 : Nat) y_WH_settle) ∈ zx_T := zx_in 511 rfl rfl
set_option maxRecDepth 20000 in
theorem wd_480 : (Cond.methodLink "BigDesk$CommonDivisor" (49 : Nat) y_DV_ofAbsolutes) ∈ zx_T := zx_in 512 rfl rfl
set_option maxRecDepth 20000 in
theorem wd_481 : (Cond.methodLink "BigDeskLaw" (139 : Nat) y_LW_negate) ∈ zx_T := zx_in 513 rfl rfl
set_option maxRecDepth 20000 in
theorem wd_482 : (Cond.static y_LW_negate) ∈ zx_T := zx_in 514 rfl rfl
set_option maxRecDepth 20000 in
theorem wd_483 : (Cond.codeWith y_LW_negate method_13_code (4 : Nat) (Option.some FieldType.int) [((0 : Nat), (6 : Nat), (9 : Nat), (13 : Nat))]) ∈ zx_T := zx_in 515 rfl rfl
set_option maxRecDepth 20000 in
theorem wd_484 : (Cond.methodLink "BigDeskLaw" (50 : Nat) y_BD_negate) ∈ zx_T := zx_in 516 rfl rfl
set_option maxRecDepth 20000 in
theorem wd_485 : (Cond.instanceMethod y_BD_negate) ∈ zx_T := zx_in 517 rfl rfl
set_option maxRecDepth 20000 in
theorem wd_486 : (Cond.selects "BigDesk" y_BD_negate y_BD_negate) ∈ zx_T := zx_in 518 rfl rfl
set_option maxRecDepth 20000 in
theorem wd_487 : (Cond.code y_BD_negate prog_1_method_12_code (6 : Nat) (Option.none : Option FieldType)) ∈ zx_T := zx_in 519 rfl rfl
set_option maxRecDepth 20000 in
theorem wd_488 : (Cond.methodLink "BigDeskLaw" (142 : Nat) y_LW_compare) ∈ zx_T := zx_in 520 rfl rfl
set_option maxRecDepth 20000 in
theorem wd_489 : (Cond.static y_LW_compare) ∈ zx_T := zx_in 521 rfl rfl
set_option maxRecDepth 20000 in
theorem wd_490 : (Cond.codeWith y_LW_compare method_14_code (5 : Nat) (Option.some FieldType.int) [((0 : Nat), (10 : Nat), (13 : Nat), (13 : Nat))]) ∈ zx_T := zx_in 522 rfl rfl
set_option maxRecDepth 20000 in
theorem wd_491 : (Cond.methodLink "BigDeskLaw" (53 : Nat) y_BD_compare) ∈ zx_T := zx_in 523 rfl rfl
set_option maxRecDepth 20000 in
theorem wd_492 : (Cond.instanceMethod y_BD_compare) ∈ zx_T := zx_in 524 rfl rfl
set_option maxRecDepth 20000 in
theorem wd_493 : (Cond.selects "BigDesk" y_BD_compare y_BD_compare) ∈ zx_T := zx_in 525 rfl rfl
set_option maxRecDepth 20000 in
theorem wd_494 : (Cond.code y_BD_compare prog_1_method_13_code (6 : Nat) (Option.some FieldType.int)) ∈ zx_T := zx_in 526 rfl rfl
set_option maxRecDepth 20000 in
theorem wd_495 : (Cond.methodLink "BigDesk" (139 : Nat) y_SU_orderOfAbsolutes) ∈ zx_T := zx_in 527 rfl rfl
set_option maxRecDepth 20000 in
theorem wd_496 : (Cond.methodLink "BigDeskLaw" (146 : Nat) y_LW_rest) ∈ zx_T := zx_in 528 rfl rfl
set_option maxRecDepth 20000 in
theorem wd_497 : (Cond.static y_LW_rest) ∈ zx_T := zx_in 529 rfl rfl
set_option maxRecDepth 20000 in
theorem wd_498 : (Cond.codeWith y_LW_rest method_15_code (6 : Nat) (Option.some FieldType.int) [((0 : Nat), (10 : Nat), (13 : Nat), (13 : Nat))]) ∈ zx_T := zx_in 530 rfl rfl
set_option maxRecDepth 20000 in
theorem wd_499 : (Cond.methodLink "BigDeskLaw" (57 : Nat) y_BD_rest) ∈ zx_T := zx_in 531 rfl rfl
set_option maxRecDepth 20000 in
theorem wd_500 : (Cond.instanceMethod y_BD_rest) ∈ zx_T := zx_in 532 rfl rfl
set_option maxRecDepth 20000 in
theorem wd_501 : (Cond.selects "BigDesk" y_BD_rest y_BD_rest) ∈ zx_T := zx_in 533 rfl rfl
set_option maxRecDepth 20000 in
theorem wd_502 : (Cond.code y_BD_rest prog_1_method_14_code (5 : Nat) (Option.some FieldType.long)) ∈ zx_T := zx_in 534 rfl rfl
set_option maxRecDepth 20000 in
theorem wd_504 : (Cond.methodLink "BigDesk" (145 : Nat) y_WH_asLong) ∈ zx_T := zx_in 536 rfl rfl
set_option maxRecDepth 20000 in
theorem wd_505 : (Cond.instanceMethod y_WH_asLong) ∈ zx_T := zx_in 537 rfl rfl
set_option maxRecDepth 20000 in
theorem wd_506 : (Cond.selects "BigDesk$Whole" y_WH_asLong y_WH_asLong) ∈ zx_T := zx_in 538 rfl rfl
set_option maxRecDepth 20000 in
theorem wd_507 : (Cond.code y_WH_asLong prog_6_method_13_code (1 : Nat) (Option.some FieldType.long)) ∈ zx_T := zx_in 539 rfl rfl
set_option maxRecDepth 20000 in
theorem wd_508 : (Cond.methodLink "BigDesk$Whole" (63 : Nat) y_WH_lowestLong) ∈ zx_T := zx_in 540 rfl rfl
set_option maxRecDepth 20000 in
theorem wd_510 : (Cond.instanceMethod y_WH_lowestLong) ∈ zx_T := zx_in 542 rfl rfl
set_option maxRecDepth 20000 in
theorem wd_511 : (Cond.code y_WH_lowestLong prog_6_method_14_code (1 : Nat) (Option.some FieldType.long)) ∈ zx_T := zx_in 543 rfl rfl
set_option maxRecDepth 20000 in
theorem wd_512 : (Cond.methodLink "BigDeskLaw" (150 : Nat) y_LW_value) ∈ zx_T := zx_in 544 rfl rfl
set_option maxRecDepth 20000 in
theorem wd_513 : (Cond.static y_LW_value) ∈ zx_T := zx_in 545 rfl rfl
set_option maxRecDepth 20000 in
theorem wd_514 : (Cond.codeWith y_LW_value method_16_code (4 : Nat) (Option.some FieldType.int) [((0 : Nat), (8 : Nat), (11 : Nat), (13 : Nat)), ((0 : Nat), (8 : Nat), (14 : Nat), (23 : Nat))]) ∈ zx_T := zx_in 546 rfl rfl
set_option maxRecDepth 20000 in
theorem wd_515 : (Cond.methodLink "BigDeskLaw" (61 : Nat) y_BD_value) ∈ zx_T := zx_in 547 rfl rfl
set_option maxRecDepth 20000 in
theorem wd_516 : (Cond.instanceMethod y_BD_value) ∈ zx_T := zx_in 548 rfl rfl
set_option maxRecDepth 20000 in
theorem wd_517 : (Cond.selects "BigDesk" y_BD_value y_BD_value) ∈ zx_T := zx_in 549 rfl rfl
set_option maxRecDepth 20000 in
theorem wd_518 : (Cond.code y_BD_value prog_1_method_15_code (3 : Nat) (Option.some FieldType.long)) ∈ zx_T := zx_in 550 rfl rfl
set_option maxRecDepth 20000 in
theorem wd_519 : (Cond.methodLink "BigDesk" (149 : Nat) y_WH_isLong) ∈ zx_T := zx_in 551 rfl rfl
set_option maxRecDepth 20000 in
theorem wd_520 : (Cond.instanceMethod y_WH_isLong) ∈ zx_T := zx_in 552 rfl rfl
set_option maxRecDepth 20000 in
theorem wd_521 : (Cond.selects "BigDesk$Whole" y_WH_isLong y_WH_isLong) ∈ zx_T := zx_in 553 rfl rfl
set_option maxRecDepth 20000 in
theorem wd_522 : (Cond.code y_WH_isLong prog_6_method_12_code (3 : Nat) (Option.some FieldType.boolean)) ∈ zx_T := zx_in 554 rfl rfl
set_option maxRecDepth 20000 in
theorem wd_523 : (Cond.constantLong "BigDesk$Whole" (67 : Nat) (-9223372036854775808 : Int64)) ∈ zx_T := zx_in 555 rfl rfl
set_option maxRecDepth 20000 in
theorem wd_525 : (Cond.methodLink "BigDeskLaw" (154 : Nat) y_LW_limb) ∈ zx_T := zx_in 557 rfl rfl
set_option maxRecDepth 20000 in
theorem wd_526 : (Cond.static y_LW_limb) ∈ zx_T := zx_in 558 rfl rfl
set_option maxRecDepth 20000 in
theorem wd_527 : (Cond.codeWith y_LW_limb method_17_code (5 : Nat) (Option.some FieldType.int) [((0 : Nat), (9 : Nat), (12 : Nat), (13 : Nat))]) ∈ zx_T := zx_in 559 rfl rfl
set_option maxRecDepth 20000 in
theorem wd_528 : (Cond.methodLink "BigDeskLaw" (65 : Nat) y_BD_limb) ∈ zx_T := zx_in 560 rfl rfl
set_option maxRecDepth 20000 in
theorem wd_529 : (Cond.instanceMethod y_BD_limb) ∈ zx_T := zx_in 561 rfl rfl
set_option maxRecDepth 20000 in
theorem wd_530 : (Cond.selects "BigDesk" y_BD_limb y_BD_limb) ∈ zx_T := zx_in 562 rfl rfl
set_option maxRecDepth 20000 in
theorem wd_531 : (Cond.code y_BD_limb prog_1_method_16_code (4 : Nat) (Option.some FieldType.long)) ∈ zx_T := zx_in 563 rfl rfl
set_option maxRecDepth 20000 in
theorem wd_533 : (Cond.methodLink "BigDesk" (157 : Nat) y_WH_at) ∈ zx_T := zx_in 565 rfl rfl
set_option maxRecDepth 20000 in
theorem wd_534 : (Cond.methodLink "BigDeskLaw" (157 : Nat) y_LW_look) ∈ zx_T := zx_in 566 rfl rfl
set_option maxRecDepth 20000 in
theorem wd_535 : (Cond.static y_LW_look) ∈ zx_T := zx_in 567 rfl rfl
set_option maxRecDepth 20000 in
theorem wd_536 : (Cond.codeWith y_LW_look method_18_code (5 : Nat) (Option.some FieldType.int) [((0 : Nat), (10 : Nat), (13 : Nat), (13 : Nat))]) ∈ zx_T := zx_in 568 rfl rfl
set_option maxRecDepth 20000 in
theorem wd_537 : (Cond.methodLink "BigDeskLaw" (69 : Nat) y_BD_look) ∈ zx_T := zx_in 569 rfl rfl
set_option maxRecDepth 20000 in
theorem wd_538 : (Cond.instanceMethod y_BD_look) ∈ zx_T := zx_in 570 rfl rfl
set_option maxRecDepth 20000 in
theorem wd_539 : (Cond.selects "BigDesk" y_BD_look y_BD_look) ∈ zx_T := zx_in 571 rfl rfl
set_option maxRecDepth 20000 in
theorem wd_540 : (Cond.code y_BD_look prog_1_method_17_code (4 : Nat) (Option.some FieldType.int)) ∈ zx_T := zx_in 572 rfl rfl
set_option maxRecDepth 20000 in
theorem wd_542 : (Cond.methodLink "BigDeskLaw" (160 : Nat) y_LW_feed) ∈ zx_T := zx_in 574 rfl rfl
set_option maxRecDepth 20000 in
theorem wd_543 : (Cond.static y_LW_feed) ∈ zx_T := zx_in 575 rfl rfl
set_option maxRecDepth 20000 in
theorem wd_544 : (Cond.codeWith y_LW_feed method_19_code (6 : Nat) (Option.some FieldType.int) [((0 : Nat), (11 : Nat), (14 : Nat), (13 : Nat)), ((0 : Nat), (11 : Nat), (18 : Nat), (23 : Nat))]) ∈ zx_T := zx_in 576 rfl rfl
set_option maxRecDepth 20000 in
theorem wd_545 : (Cond.methodLink "BigDeskLaw" (72 : Nat) y_BD_feed) ∈ zx_T := zx_in 577 rfl rfl
set_option maxRecDepth 20000 in
theorem wd_546 : (Cond.instanceMethod y_BD_feed) ∈ zx_T := zx_in 578 rfl rfl
set_option maxRecDepth 20000 in
theorem wd_547 : (Cond.selects "BigDesk" y_BD_feed y_BD_feed) ∈ zx_T := zx_in 579 rfl rfl
set_option maxRecDepth 20000 in
theorem wd_548 : (Cond.code y_BD_feed prog_1_method_18_code (5 : Nat) (Option.some FieldType.int)) ∈ zx_T := zx_in 580 rfl rfl
set_option maxRecDepth 20000 in
theorem wd_551 : (Cond.methodLink "BigDeskLaw" (163 : Nat) y_LW_read) ∈ zx_T := zx_in 583 rfl rfl
set_option maxRecDepth 20000 in
theorem wd_552 : (Cond.static y_LW_read) ∈ zx_T := zx_in 584 rfl rfl
set_option maxRecDepth 20000 in
theorem wd_553 : (Cond.codeWith y_LW_read method_20_code (4 : Nat) (Option.some FieldType.int) [((0 : Nat), (16 : Nat), (19 : Nat), (13 : Nat))]) ∈ zx_T := zx_in 585 rfl rfl
set_option maxRecDepth 20000 in
theorem wd_554 : (Cond.methodLink "BigDeskLaw" (76 : Nat) y_BD_read) ∈ zx_T := zx_in 586 rfl rfl
set_option maxRecDepth 20000 in
theorem wd_555 : (Cond.instanceMethod y_BD_read) ∈ zx_T := zx_in 587 rfl rfl
set_option maxRecDepth 20000 in
theorem wd_556 : (Cond.selects "BigDesk" y_BD_read y_BD_read) ∈ zx_T := zx_in 588 rfl rfl
set_option maxRecDepth 20000 in
theorem wd_557 : (Cond.code y_BD_read prog_1_method_19_code (4 : Nat) (Option.some FieldType.boolean)) ∈ zx_T := zx_in 589 rfl rfl
set_option maxRecDepth 20000 in
theorem wd_558 : (Cond.methodLink "BigDesk" (167 : Nat) y_TX_numberOf) ∈ zx_T := zx_in 590 rfl rfl
set_option maxRecDepth 20000 in
theorem wd_559 : (Cond.static y_TX_numberOf) ∈ zx_T := zx_in 591 rfl rfl
set_option maxRecDepth 20000 in
theorem wd_560 : (Cond.code y_TX_numberOf prog_5_method_3_code (7 : Nat) (Option.some FieldType.boolean)) ∈ zx_T := zx_in 592 rfl rfl
set_option maxRecDepth 20000 in
theorem wd_561 : (Cond.methodLink "BigDesk$Texts" (9 : Nat) y_TX_isText) ∈ zx_T := zx_in 593 rfl rfl
set_option maxRecDepth 20000 in
theorem wd_562 : (Cond.static y_TX_isText) ∈ zx_T := zx_in 594 rfl rfl
set_option maxRecDepth 20000 in
theorem wd_563 : (Cond.code y_TX_isText prog_5_method_2_code (4 : Nat) (Option.some FieldType.boolean)) ∈ zx_T := zx_in 595 rfl rfl
set_option maxRecDepth 20000 in
theorem wd_564 : (Cond.methodLink "BigDesk$Texts" (15 : Nat) y_WH_clear) ∈ zx_T := zx_in 596 rfl rfl
set_option maxRecDepth 20000 in
theorem wd_565 : (Cond.constantLong "BigDesk$Texts" (20 : Nat) (10 : Int64)) ∈ zx_T := zx_in 597 rfl rfl
set_option maxRecDepth 20000 in
theorem wd_566 : (Cond.constantLong "BigDesk$Texts" (22 : Nat) (48 : Int64)) ∈ zx_T := zx_in 598 rfl rfl
set_option maxRecDepth 20000 in
theorem wd_567 : (Cond.methodLink "BigDesk$Texts" (24 : Nat) y_WH_appendChunk) ∈ zx_T := zx_in 599 rfl rfl
set_option maxRecDepth 20000 in
theorem wd_568 : (Cond.instanceMethod y_WH_appendChunk) ∈ zx_T := zx_in 600 rfl rfl
set_option maxRecDepth 20000 in
theorem wd_569 : (Cond.selects "BigDesk$Whole" y_WH_appendChunk y_WH_appendChunk) ∈ zx_T := zx_in 601 rfl rfl
set_option maxRecDepth 20000 in
theorem wd_570 : (Cond.code y_WH_appendChunk prog_6_method_17_code (8 : Nat) (Option.none : Option FieldType)) ∈ zx_T := zx_in 602 rfl rfl
set_option maxRecDepth 20000 in
theorem wd_571 : (Cond.constantLong "BigDesk$Whole" (69 : Nat) (1000000000 : Int64)) ∈ zx_T := zx_in 603 rfl rfl
set_option maxRecDepth 20000 in
theorem wd_572 : (Cond.methodLink "BigDesk$Texts" (28 : Nat) y_WH_markSign) ∈ zx_T := zx_in 604 rfl rfl
set_option maxRecDepth 20000 in
theorem wd_573 : (Cond.methodLink "BigDeskLaw" (166 : Nat) y_LW_write) ∈ zx_T := zx_in 605 rfl rfl
set_option maxRecDepth 20000 in
theorem wd_574 : (Cond.static y_LW_write) ∈ zx_T := zx_in 606 rfl rfl
set_option maxRecDepth 20000 in
theorem wd_575 : (Cond.codeWith y_LW_write method_21_code (4 : Nat) (Option.some FieldType.int) [((0 : Nat), (9 : Nat), (12 : Nat), (13 : Nat))]) ∈ zx_T := zx_in 607 rfl rfl
set_option maxRecDepth 20000 in
theorem wd_576 : (Cond.methodLink "BigDeskLaw" (80 : Nat) y_BD_write) ∈ zx_T := zx_in 608 rfl rfl
set_option maxRecDepth 20000 in
theorem wd_577 : (Cond.instanceMethod y_BD_write) ∈ zx_T := zx_in 609 rfl rfl
set_option maxRecDepth 20000 in
theorem wd_578 : (Cond.selects "BigDesk" y_BD_write y_BD_write) ∈ zx_T := zx_in 610 rfl rfl
set_option maxRecDepth 20000 in
theorem wd_579 : (Cond.code y_BD_write prog_1_method_20_code (2 : Nat) (Option.some FieldType.int)) ∈ zx_T := zx_in 611 rfl rfl
set_option maxRecDepth 20000 in
theorem wd_580 : (Cond.methodLink "BigDesk" (173 : Nat) y_TX_textOf) ∈ zx_T := zx_in 612 rfl rfl
set_option maxRecDepth 20000 in
theorem wd_581 : (Cond.static y_TX_textOf) ∈ zx_T := zx_in 613 rfl rfl
set_option maxRecDepth 20000 in
theorem wd_582 : (Cond.code y_TX_textOf prog_5_method_4_code (5 : Nat) (Option.some FieldType.int)) ∈ zx_T := zx_in 614 rfl rfl
set_option maxRecDepth 20000 in
theorem wd_583 : (Cond.methodLink "BigDesk$Texts" (40 : Nat) y_TX_layChunk) ∈ zx_T := zx_in 615 rfl rfl
set_option maxRecDepth 20000 in
theorem wd_584 : (Cond.static y_TX_layChunk) ∈ zx_T := zx_in 616 rfl rfl
set_option maxRecDepth 20000 in
theorem wd_585 : (Cond.code y_TX_layChunk prog_5_method_5_code (7 : Nat) (Option.some FieldType.int)) ∈ zx_T := zx_in 617 rfl rfl
set_option maxRecDepth 20000 in
theorem wd_586 : (Cond.methodLink "BigDesk$Texts" (54 : Nat) y_WH_takeChunk) ∈ zx_T := zx_in 618 rfl rfl
set_option maxRecDepth 20000 in
theorem wd_587 : (Cond.instanceMethod y_WH_takeChunk) ∈ zx_T := zx_in 619 rfl rfl
set_option maxRecDepth 20000 in
theorem wd_588 : (Cond.selects "BigDesk$Whole" y_WH_takeChunk y_WH_takeChunk) ∈ zx_T := zx_in 620 rfl rfl
set_option maxRecDepth 20000 in
theorem wd_589 : (Cond.code y_WH_takeChunk prog_6_method_18_code (6 : Nat) (Option.some FieldType.long)) ∈ zx_T := zx_in 621 rfl rfl
set_option maxRecDepth 20000 in
theorem wd_590 : (Cond.methodLink "BigDesk$Texts" (44 : Nat) y_TX_layByte) ∈ zx_T := zx_in 622 rfl rfl
set_option maxRecDepth 20000 in
theorem wd_591 : (Cond.static y_TX_layByte) ∈ zx_T := zx_in 623 rfl rfl
set_option maxRecDepth 20000 in
theorem wd_592 : (Cond.code y_TX_layByte prog_5_method_6_code (3 : Nat) (Option.some FieldType.int)) ∈ zx_T := zx_in 624 rfl rfl
set_option maxRecDepth 20000 in
theorem wd_593 : (Cond.methodLink "BigDesk$Texts" (48 : Nat) (⟨"java/lang/System", "arraycopy", "(Ljava/lang/Object;ILjava/lang/Object;II)V"⟩ : MethodName)) ∈ zx_T := zx_in 625 rfl rfl
set_option maxRecDepth 20000 in
theorem wd_594 : (Cond.methodLink "BigDeskLaw" (169 : Nat) y_LW_out) ∈ zx_T := zx_in 626 rfl rfl
set_option maxRecDepth 20000 in
theorem wd_595 : (Cond.static y_LW_out) ∈ zx_T := zx_in 627 rfl rfl
set_option maxRecDepth 20000 in
theorem wd_596 : (Cond.codeWith y_LW_out method_22_code (4 : Nat) (Option.some FieldType.int) [((0 : Nat), (8 : Nat), (11 : Nat), (87 : Nat))]) ∈ zx_T := zx_in 628 rfl rfl
set_option maxRecDepth 20000 in
theorem wd_597 : (Cond.classLink "BigDeskLaw" (87 : Nat) "java/util/NoSuchElementException") ∈ zx_T := zx_in 629 rfl rfl
set_option maxRecDepth 20000 in
theorem wd_598 : (Cond.methodLink "BigDeskLaw" (84 : Nat) y_BD_out) ∈ zx_T := zx_in 630 rfl rfl
set_option maxRecDepth 20000 in
theorem wd_599 : (Cond.instanceMethod y_BD_out) ∈ zx_T := zx_in 631 rfl rfl
set_option maxRecDepth 20000 in
theorem wd_600 : (Cond.selects "BigDesk" y_BD_out y_BD_out) ∈ zx_T := zx_in 632 rfl rfl
set_option maxRecDepth 20000 in
theorem wd_601 : (Cond.code y_BD_out prog_1_method_21_code (6 : Nat) (Option.some FieldType.long)) ∈ zx_T := zx_in 633 rfl rfl
set_option maxRecDepth 20000 in
theorem wd_602 : (Cond.classLink "BigDesk" (177 : Nat) "java/util/NoSuchElementException") ∈ zx_T := zx_in 634 rfl rfl
set_option maxRecDepth 20000 in
theorem wd_603 : (Cond.instantiable "java/util/NoSuchElementException" (6 : Nat)) ∈ zx_T := zx_in 635 rfl rfl
set_option maxRecDepth 20000 in
theorem wd_605 : (Cond.selects "java/util/NoSuchElementException" (⟨"java/lang/Throwable", "fillInStackTrace", "(I)Ljava/lang/Throwable;"⟩ : MethodName) (⟨"java/lang/Throwable", "fillInStackTrace", "(I)Ljava/lang/Throwable;"⟩ : MethodName)) ∈ zx_T := zx_in 637 rfl rfl
set_option maxRecDepth 20000 in
theorem wd_606 : (Cond.lays "java/util/NoSuchElementException" "java/lang/Throwable" "cause" "Ljava/lang/Throwable;") ∈ zx_T := zx_in 638 rfl rfl
set_option maxRecDepth 20000 in
theorem wd_607 : (Cond.lays "java/util/NoSuchElementException" "java/lang/Throwable" "stackTrace" "[Ljava/lang/StackTraceElement;") ∈ zx_T := zx_in 639 rfl rfl
set_option maxRecDepth 20000 in
theorem wd_608 : (Cond.lays "java/util/NoSuchElementException" "java/lang/Throwable" "suppressedExceptions" "Ljava/util/List;") ∈ zx_T := zx_in 640 rfl rfl
set_option maxRecDepth 20000 in
theorem wd_609 : (Cond.lays "java/util/NoSuchElementException" "java/lang/Throwable" "detailMessage" "Ljava/lang/String;") ∈ zx_T := zx_in 641 rfl rfl
set_option maxRecDepth 20000 in
theorem wd_610 : (Cond.lays "java/util/NoSuchElementException" "java/lang/Throwable" "backtrace" "Ljava/lang/Object;") ∈ zx_T := zx_in 642 rfl rfl
set_option maxRecDepth 20000 in
theorem wd_612 : (Cond.methodLink "BigDesk" (181 : Nat) (⟨"java/util/NoSuchElementException", "<init>", "(Ljava/lang/String;)V"⟩ : MethodName)) ∈ zx_T := zx_in 644 rfl rfl
set_option maxRecDepth 20000 in
theorem wd_613 : (Cond.instanceMethod (⟨"java/util/NoSuchElementException", "<init>", "(Ljava/lang/String;)V"⟩ : MethodName)) ∈ zx_T := zx_in 645 rfl rfl
set_option maxRecDepth 20000 in
theorem wd_614 : (Cond.code (⟨"java/util/NoSuchElementException", "<init>", "(Ljava/lang/String;)V"⟩ : MethodName) prog_19_method_4_code (2 : Nat) (Option.none : Option FieldType)) ∈ zx_T := zx_in 646 rfl rfl
set_option maxRecDepth 20000 in
theorem wd_615 : (Cond.methodLink "java/util/NoSuchElementException" (13 : Nat) (⟨"java/lang/RuntimeException", "<init>", "(Ljava/lang/String;)V"⟩ : MethodName)) ∈ zx_T := zx_in 647 rfl rfl
set_option maxRecDepth 20000 in
theorem wd_616 : (Cond.lays "java/util/NoSuchElementException" "java/lang/Throwable" "depth" "I") ∈ zx_T := zx_in 648 rfl rfl
set_option maxRecDepth 20000 in
theorem wd_617 : (Cond.superclass "java/util/NoSuchElementException" "java/lang/RuntimeException") ∈ zx_T := zx_in 649 rfl rfl
set_option maxRecDepth 20000 in
theorem wd_618 : (Cond.methodLink "BigDesk" (182 : Nat) y_JM_min) ∈ zx_T := zx_in 650 rfl rfl
set_option maxRecDepth 20000 in
theorem wd_619 : (Cond.methodLink "BigDeskLaw" (172 : Nat) y_LW_text) ∈ zx_T := zx_in 651 rfl rfl
set_option maxRecDepth 20000 in
theorem wd_620 : (Cond.static y_LW_text) ∈ zx_T := zx_in 652 rfl rfl
set_option maxRecDepth 20000 in
theorem wd_621 : (Cond.codeWith y_LW_text method_23_code (4 : Nat) (Option.some FieldType.int) [((0 : Nat), (9 : Nat), (12 : Nat), (13 : Nat))]) ∈ zx_T := zx_in 653 rfl rfl
set_option maxRecDepth 20000 in
theorem wd_622 : (Cond.methodLink "BigDeskLaw" (89 : Nat) y_BD_text) ∈ zx_T := zx_in 654 rfl rfl
set_option maxRecDepth 20000 in
theorem wd_623 : (Cond.instanceMethod y_BD_text) ∈ zx_T := zx_in 655 rfl rfl
set_option maxRecDepth 20000 in
theorem wd_624 : (Cond.selects "BigDesk" y_BD_text y_BD_text) ∈ zx_T := zx_in 656 rfl rfl
set_option maxRecDepth 20000 in
theorem wd_625 : (Cond.code y_BD_text prog_1_method_22_code (2 : Nat) (Option.some FieldType.int)) ∈ zx_T := zx_in 657 rfl rfl
set_option maxRecDepth 20000 in
theorem wd_627 : (Cond.classLink "BigDeskLaw" (93 : Nat) "BigDeskModel") ∈ zx_T := zx_in 659 rfl rfl
set_option maxRecDepth 20000 in
theorem wd_628 : (Cond.instantiable "BigDeskModel" (8 : Nat)) ∈ zx_T := zx_in 660 rfl rfl
set_option maxRecDepth 20000 in
theorem wd_629 : (Cond.methodLink "BigDeskLaw" (95 : Nat) y_MO_init) ∈ zx_T := zx_in 661 rfl rfl
set_option maxRecDepth 20000 in
theorem wd_630 : (Cond.instanceMethod y_MO_init) ∈ zx_T := zx_in 662 rfl rfl
set_option maxRecDepth 20000 in
theorem wd_631 : (Cond.code y_MO_init prog_8_method_1_code (2 : Nat) (Option.none : Option FieldType)) ∈ zx_T := zx_in 663 rfl rfl
set_option maxRecDepth 20000 in
theorem wd_632 : (Cond.methodLink "BigDeskModel" (1 : Nat) (⟨"java/lang/Object", "<init>", "()V"⟩ : MethodName)) ∈ zx_T := zx_in 664 rfl rfl
set_option maxRecDepth 20000 in
theorem wd_633 : (Cond.methodLink "BigDeskModel" (25 : Nat) y_MO_setRow) ∈ zx_T := zx_in 665 rfl rfl
set_option maxRecDepth 20000 in
theorem wd_635 : (Cond.instanceMethod y_MO_setRow) ∈ zx_T := zx_in 667 rfl rfl
set_option maxRecDepth 20000 in
theorem wd_636 : (Cond.code y_MO_setRow prog_8_method_6_code (8 : Nat) (Option.none : Option FieldType)) ∈ zx_T := zx_in 668 rfl rfl
set_option maxRecDepth 20000 in
theorem wd_637 : (Cond.constantLong "BigDeskModel" (37 : Nat) (10000 : Int64)) ∈ zx_T := zx_in 669 rfl rfl
set_option maxRecDepth 20000 in
theorem wd_638 : (Cond.methodLink "BigDeskModel" (29 : Nat) y_MO_scale) ∈ zx_T := zx_in 670 rfl rfl
set_option maxRecDepth 20000 in
theorem wd_640 : (Cond.instanceMethod y_MO_scale) ∈ zx_T := zx_in 672 rfl rfl
set_option maxRecDepth 20000 in
theorem wd_641 : (Cond.code y_MO_scale prog_8_method_14_code (6 : Nat) (Option.none : Option FieldType)) ∈ zx_T := zx_in 673 rfl rfl
set_option maxRecDepth 20000 in
theorem wd_642 : (Cond.methodLink "BigDeskModel" (39 : Nat) y_MO_at) ∈ zx_T := zx_in 674 rfl rfl
set_option maxRecDepth 20000 in
theorem wd_644 : (Cond.instanceMethod y_MO_at) ∈ zx_T := zx_in 676 rfl rfl
set_option maxRecDepth 20000 in
theorem wd_645 : (Cond.code y_MO_at prog_8_method_8_code (3 : Nat) (Option.some FieldType.int)) ∈ zx_T := zx_in 677 rfl rfl
set_option maxRecDepth 20000 in
theorem wd_646 : (Cond.fieldLink "BigDeskModel" (33 : Nat) "BigDeskModel" "thrown" "I") ∈ zx_T := zx_in 678 rfl rfl
set_option maxRecDepth 20000 in
theorem wd_647 : (Cond.fieldLink "BigDeskModel" (7 : Nat) "BigDeskModel" "digit" "[I") ∈ zx_T := zx_in 679 rfl rfl
set_option maxRecDepth 20000 in
theorem wd_648 : (Cond.fieldLink "BigDeskModel" (13 : Nat) "BigDeskModel" "size" "[I") ∈ zx_T := zx_in 680 rfl rfl
set_option maxRecDepth 20000 in
theorem wd_649 : (Cond.fieldLink "BigDeskModel" (16 : Nat) "BigDeskModel" "sign" "[I") ∈ zx_T := zx_in 681 rfl rfl
set_option maxRecDepth 20000 in
theorem wd_650 : (Cond.fieldLink "BigDeskModel" (19 : Nat) "BigDeskModel" "tape" "[I") ∈ zx_T := zx_in 682 rfl rfl
set_option maxRecDepth 20000 in
theorem wd_651 : (Cond.fieldLink "BigDeskModel" (120 : Nat) "BigDeskModel" "taped" "I") ∈ zx_T := zx_in 683 rfl rfl
set_option maxRecDepth 20000 in
theorem wd_652 : (Cond.fieldLink "BigDeskModel" (22 : Nat) "BigDeskModel" "text" "[I") ∈ zx_T := zx_in 684 rfl rfl
set_option maxRecDepth 20000 in
theorem wd_653 : (Cond.fieldLink "BigDeskModel" (127 : Nat) "BigDeskModel" "written" "I") ∈ zx_T := zx_in 685 rfl rfl
set_option maxRecDepth 20000 in
theorem wd_654 : (Cond.lays "BigDeskModel" "BigDeskModel" "thrown" "I") ∈ zx_T := zx_in 686 rfl rfl
set_option maxRecDepth 20000 in
theorem wd_655 : (Cond.soleField "BigDeskModel" "thrown") ∈ zx_T := zx_in 687 rfl rfl
set_option maxRecDepth 20000 in
theorem wd_656 : (Cond.laysFinal "BigDeskModel" "BigDeskModel" "digit" "[I") ∈ zx_T := zx_in 688 rfl rfl
set_option maxRecDepth 20000 in
theorem wd_657 : (Cond.soleField "BigDeskModel" "digit") ∈ zx_T := zx_in 689 rfl rfl
set_option maxRecDepth 20000 in
theorem wd_658 : (Cond.laysFinal "BigDeskModel" "BigDeskModel" "size" "[I") ∈ zx_T := zx_in 690 rfl rfl
set_option maxRecDepth 20000 in
theorem wd_659 : (Cond.soleField "BigDeskModel" "size") ∈ zx_T := zx_in 691 rfl rfl
set_option maxRecDepth 20000 in
theorem wd_660 : (Cond.laysFinal "BigDeskModel" "BigDeskModel" "sign" "[I") ∈ zx_T := zx_in 692 rfl rfl
set_option maxRecDepth 20000 in
theorem wd_661 : (Cond.soleField "BigDeskModel" "sign") ∈ zx_T := zx_in 693 rfl rfl
set_option maxRecDepth 20000 in
theorem wd_662 : (Cond.laysFinal "BigDeskModel" "BigDeskModel" "tape" "[I") ∈ zx_T := zx_in 694 rfl rfl
set_option maxRecDepth 20000 in
theorem wd_663 : (Cond.soleField "BigDeskModel" "tape") ∈ zx_T := zx_in 695 rfl rfl
set_option maxRecDepth 20000 in
theorem wd_664 : (Cond.lays "BigDeskModel" "BigDeskModel" "taped" "I") ∈ zx_T := zx_in 696 rfl rfl
set_option maxRecDepth 20000 in
theorem wd_665 : (Cond.soleField "BigDeskModel" "taped") ∈ zx_T := zx_in 697 rfl rfl
set_option maxRecDepth 20000 in
theorem wd_666 : (Cond.laysFinal "BigDeskModel" "BigDeskModel" "text" "[I") ∈ zx_T := zx_in 698 rfl rfl
set_option maxRecDepth 20000 in
theorem wd_667 : (Cond.soleField "BigDeskModel" "text") ∈ zx_T := zx_in 699 rfl rfl
set_option maxRecDepth 20000 in
theorem wd_668 : (Cond.lays "BigDeskModel" "BigDeskModel" "written" "I") ∈ zx_T := zx_in 700 rfl rfl
set_option maxRecDepth 20000 in
theorem wd_669 : (Cond.soleField "BigDeskModel" "written") ∈ zx_T := zx_in 701 rfl rfl
set_option maxRecDepth 20000 in
theorem wd_670 : (Cond.superclass "BigDeskModel" "java/lang/Object") ∈ zx_T := zx_in 702 rfl rfl
set_option maxRecDepth 20000 in
theorem wd_671 : (Cond.arrayClass FieldType.int) ∈ zx_T := zx_in 703 rfl rfl
set_option maxRecDepth 20000 in
theorem wd_672 : (Cond.methodLink "BigDeskLaw" (104 : Nat) y_MO_thrown) ∈ zx_T := zx_in 704 rfl rfl
set_option maxRecDepth 20000 in
theorem wd_673 : (Cond.instanceMethod y_MO_thrown) ∈ zx_T := zx_in 705 rfl rfl
set_option maxRecDepth 20000 in
theorem wd_674 : (Cond.selects "BigDeskModel" y_MO_thrown y_MO_thrown) ∈ zx_T := zx_in 706 rfl rfl
set_option maxRecDepth 20000 in
theorem wd_675 : (Cond.code y_MO_thrown prog_8_method_2_code (1 : Nat) (Option.some FieldType.int)) ∈ zx_T := zx_in 707 rfl rfl
set_option maxRecDepth 20000 in
theorem wd_676 : (Cond.methodLink "BigDeskLaw" (103 : Nat) y_MO_set) ∈ zx_T := zx_in 708 rfl rfl
set_option maxRecDepth 20000 in
theorem wd_677 : (Cond.instanceMethod y_MO_set) ∈ zx_T := zx_in 709 rfl rfl
set_option maxRecDepth 20000 in
theorem wd_678 : (Cond.selects "BigDeskModel" y_MO_set y_MO_set) ∈ zx_T := zx_in 710 rfl rfl
set_option maxRecDepth 20000 in
theorem wd_679 : (Cond.code y_MO_set prog_8_method_21_code (4 : Nat) (Option.none : Option FieldType)) ∈ zx_T := zx_in 711 rfl rfl
set_option maxRecDepth 20000 in
theorem wd_680 : (Cond.methodLink "BigDeskModel" (67 : Nat) y_MO_isNone) ∈ zx_T := zx_in 712 rfl rfl
set_option maxRecDepth 20000 in
theorem wd_681 : (Cond.static y_MO_isNone) ∈ zx_T := zx_in 713 rfl rfl
set_option maxRecDepth 20000 in
theorem wd_682 : (Cond.code y_MO_isNone prog_8_method_5_code (1 : Nat) (Option.some FieldType.boolean)) ∈ zx_T := zx_in 714 rfl rfl
set_option maxRecDepth 20000 in
theorem wd_683 : (Cond.methodLink "BigDeskModel" (71 : Nat) y_MO_fails) ∈ zx_T := zx_in 715 rfl rfl
set_option maxRecDepth 20000 in
theorem wd_685 : (Cond.instanceMethod y_MO_fails) ∈ zx_T := zx_in 717 rfl rfl
set_option maxRecDepth 20000 in
theorem wd_686 : (Cond.code y_MO_fails prog_8_method_3_code (3 : Nat) (Option.some FieldType.boolean)) ∈ zx_T := zx_in 718 rfl rfl
set_option maxRecDepth 20000 in
theorem wd_687 : (Cond.methodLink "BigDeskLaw" (111 : Nat) y_MO_copy) ∈ zx_T := zx_in 719 rfl rfl
set_option maxRecDepth 20000 in
theorem wd_688 : (Cond.instanceMethod y_MO_copy) ∈ zx_T := zx_in 720 rfl rfl
set_option maxRecDepth 20000 in
theorem wd_689 : (Cond.selects "BigDeskModel" y_MO_copy y_MO_copy) ∈ zx_T := zx_in 721 rfl rfl
set_option maxRecDepth 20000 in
theorem wd_690 : (Cond.code y_MO_copy prog_8_method_22_code (3 : Nat) (Option.none : Option FieldType)) ∈ zx_T := zx_in 722 rfl rfl
set_option maxRecDepth 20000 in
theorem wd_691 : (Cond.methodLink "BigDeskModel" (46 : Nat) y_MO_copyRow) ∈ zx_T := zx_in 723 rfl rfl
set_option maxRecDepth 20000 in
theorem wd_693 : (Cond.instanceMethod y_MO_copyRow) ∈ zx_T := zx_in 725 rfl rfl
set_option maxRecDepth 20000 in
theorem wd_694 : (Cond.code y_MO_copyRow prog_8_method_7_code (4 : Nat) (Option.none : Option FieldType)) ∈ zx_T := zx_in 726 rfl rfl
set_option maxRecDepth 20000 in
theorem wd_695 : (Cond.methodLink "BigDeskLaw" (115 : Nat) y_MO_add) ∈ zx_T := zx_in 727 rfl rfl
set_option maxRecDepth 20000 in
theorem wd_696 : (Cond.instanceMethod y_MO_add) ∈ zx_T := zx_in 728 rfl rfl
set_option maxRecDepth 20000 in
theorem wd_697 : (Cond.selects "BigDeskModel" y_MO_add y_MO_add) ∈ zx_T := zx_in 729 rfl rfl
set_option maxRecDepth 20000 in
theorem wd_698 : (Cond.code y_MO_add prog_8_method_23_code (4 : Nat) (Option.none : Option FieldType)) ∈ zx_T := zx_in 730 rfl rfl
set_option maxRecDepth 20000 in
theorem wd_699 : (Cond.methodLink "BigDeskModel" (75 : Nat) y_MO_sum) ∈ zx_T := zx_in 731 rfl rfl
set_option maxRecDepth 20000 in
theorem wd_701 : (Cond.instanceMethod y_MO_sum) ∈ zx_T := zx_in 733 rfl rfl
set_option maxRecDepth 20000 in
theorem wd_702 : (Cond.code y_MO_sum prog_8_method_12_code (6 : Nat) (Option.none : Option FieldType)) ∈ zx_T := zx_in 734 rfl rfl
set_option maxRecDepth 20000 in
theorem wd_703 : (Cond.methodLink "BigDeskModel" (49 : Nat) y_MO_joins) ∈ zx_T := zx_in 735 rfl rfl
set_option maxRecDepth 20000 in
theorem wd_705 : (Cond.instanceMethod y_MO_joins) ∈ zx_T := zx_in 737 rfl rfl
set_option maxRecDepth 20000 in
theorem wd_706 : (Cond.code y_MO_joins prog_8_method_11_code (9 : Nat) (Option.none : Option FieldType)) ∈ zx_T := zx_in 738 rfl rfl
set_option maxRecDepth 20000 in
theorem wd_707 : (Cond.methodLink "BigDeskModel" (43 : Nat) y_MO_trim) ∈ zx_T := zx_in 739 rfl rfl
set_option maxRecDepth 20000 in
theorem wd_709 : (Cond.instanceMethod y_MO_trim) ∈ zx_T := zx_in 741 rfl rfl
set_option maxRecDepth 20000 in
theorem wd_710 : (Cond.code y_MO_trim prog_8_method_9_code (3 : Nat) (Option.none : Option FieldType)) ∈ zx_T := zx_in 742 rfl rfl
set_option maxRecDepth 20000 in
theorem wd_711 : (Cond.methodLink "BigDeskModel" (53 : Nat) y_MO_against) ∈ zx_T := zx_in 743 rfl rfl
set_option maxRecDepth 20000 in
theorem wd_713 : (Cond.instanceMethod y_MO_against) ∈ zx_T := zx_in 745 rfl rfl
set_option maxRecDepth 20000 in
theorem wd_714 : (Cond.code y_MO_against prog_8_method_10_code (4 : Nat) (Option.some FieldType.int)) ∈ zx_T := zx_in 746 rfl rfl
set_option maxRecDepth 20000 in
theorem wd_715 : (Cond.methodLink "BigDeskModel" (79 : Nat) y_MO_becomes) ∈ zx_T := zx_in 747 rfl rfl
set_option maxRecDepth 20000 in
theorem wd_717 : (Cond.instanceMethod y_MO_becomes) ∈ zx_T := zx_in 749 rfl rfl
set_option maxRecDepth 20000 in
theorem wd_718 : (Cond.code y_MO_becomes prog_8_method_19_code (2 : Nat) (Option.some FieldType.boolean)) ∈ zx_T := zx_in 750 rfl rfl
set_option maxRecDepth 20000 in
theorem wd_719 : (Cond.methodLink "BigDeskLaw" (118 : Nat) y_MO_subtract) ∈ zx_T := zx_in 751 rfl rfl
set_option maxRecDepth 20000 in
theorem wd_720 : (Cond.instanceMethod y_MO_subtract) ∈ zx_T := zx_in 752 rfl rfl
set_option maxRecDepth 20000 in
theorem wd_721 : (Cond.selects "BigDeskModel" y_MO_subtract y_MO_subtract) ∈ zx_T := zx_in 753 rfl rfl
set_option maxRecDepth 20000 in
theorem wd_722 : (Cond.code y_MO_subtract prog_8_method_24_code (4 : Nat) (Option.none : Option FieldType)) ∈ zx_T := zx_in 754 rfl rfl
set_option maxRecDepth 20000 in
theorem wd_723 : (Cond.methodLink "BigDeskLaw" (121 : Nat) y_MO_multiply) ∈ zx_T := zx_in 755 rfl rfl
set_option maxRecDepth 20000 in
theorem wd_724 : (Cond.instanceMethod y_MO_multiply) ∈ zx_T := zx_in 756 rfl rfl
set_option maxRecDepth 20000 in
theorem wd_725 : (Cond.selects "BigDeskModel" y_MO_multiply y_MO_multiply) ∈ zx_T := zx_in 757 rfl rfl
set_option maxRecDepth 20000 in
theorem wd_726 : (Cond.code y_MO_multiply prog_8_method_25_code (4 : Nat) (Option.none : Option FieldType)) ∈ zx_T := zx_in 758 rfl rfl
set_option maxRecDepth 20000 in
theorem wd_727 : (Cond.methodLink "BigDeskModel" (82 : Nat) y_MO_product) ∈ zx_T := zx_in 759 rfl rfl
set_option maxRecDepth 20000 in
theorem wd_729 : (Cond.instanceMethod y_MO_product) ∈ zx_T := zx_in 761 rfl rfl
set_option maxRecDepth 20000 in
theorem wd_730 : (Cond.code y_MO_product prog_8_method_13_code (8 : Nat) (Option.none : Option FieldType)) ∈ zx_T := zx_in 762 rfl rfl
set_option maxRecDepth 20000 in
theorem wd_731 : (Cond.methodLink "BigDeskLaw" (125 : Nat) y_MO_times) ∈ zx_T := zx_in 763 rfl rfl
set_option maxRecDepth 20000 in
theorem wd_732 : (Cond.instanceMethod y_MO_times) ∈ zx_T := zx_in 764 rfl rfl
set_option maxRecDepth 20000 in
theorem wd_733 : (Cond.selects "BigDeskModel" y_MO_times y_MO_times) ∈ zx_T := zx_in 765 rfl rfl
set_option maxRecDepth 20000 in
theorem wd_734 : (Cond.code y_MO_times prog_8_method_26_code (5 : Nat) (Option.none : Option FieldType)) ∈ zx_T := zx_in 766 rfl rfl
set_option maxRecDepth 20000 in
theorem wd_735 : (Cond.methodLink "BigDeskLaw" (128 : Nat) y_MO_shift) ∈ zx_T := zx_in 767 rfl rfl
set_option maxRecDepth 20000 in
theorem wd_736 : (Cond.instanceMethod y_MO_shift) ∈ zx_T := zx_in 768 rfl rfl
set_option maxRecDepth 20000 in
theorem wd_737 : (Cond.selects "BigDeskModel" y_MO_shift y_MO_shift) ∈ zx_T := zx_in 769 rfl rfl
set_option maxRecDepth 20000 in
theorem wd_738 : (Cond.code y_MO_shift prog_8_method_27_code (5 : Nat) (Option.none : Option FieldType)) ∈ zx_T := zx_in 770 rfl rfl
set_option maxRecDepth 20000 in
theorem wd_739 : (Cond.constantLong "BigDeskModel" (85 : Nat) (8192 : Int64)) ∈ zx_T := zx_in 771 rfl rfl
set_option maxRecDepth 20000 in
theorem wd_740 : (Cond.methodLink "BigDeskModel" (87 : Nat) y_MO_in) ∈ zx_T := zx_in 772 rfl rfl
set_option maxRecDepth 20000 in
theorem wd_741 : (Cond.static y_MO_in) ∈ zx_T := zx_in 773 rfl rfl
set_option maxRecDepth 20000 in
theorem wd_742 : (Cond.code y_MO_in prog_8_method_4_code (6 : Nat) (Option.some FieldType.boolean)) ∈ zx_T := zx_in 774 rfl rfl
set_option maxRecDepth 20000 in
theorem wd_743 : (Cond.methodLink "BigDeskLaw" (131 : Nat) y_MO_half) ∈ zx_T := zx_in 775 rfl rfl
set_option maxRecDepth 20000 in
theorem wd_744 : (Cond.instanceMethod y_MO_half) ∈ zx_T := zx_in 776 rfl rfl
set_option maxRecDepth 20000 in
theorem wd_745 : (Cond.selects "BigDeskModel" y_MO_half y_MO_half) ∈ zx_T := zx_in 777 rfl rfl
set_option maxRecDepth 20000 in
theorem wd_746 : (Cond.code y_MO_half prog_8_method_28_code (7 : Nat) (Option.none : Option FieldType)) ∈ zx_T := zx_in 778 rfl rfl
set_option maxRecDepth 20000 in
theorem wd_747 : (Cond.methodLink "BigDeskModel" (64 : Nat) y_MO_parts) ∈ zx_T := zx_in 779 rfl rfl
set_option maxRecDepth 20000 in
theorem wd_749 : (Cond.instanceMethod y_MO_parts) ∈ zx_T := zx_in 781 rfl rfl
set_option maxRecDepth 20000 in
theorem wd_750 : (Cond.code y_MO_parts prog_8_method_15_code (6 : Nat) (Option.some FieldType.int)) ∈ zx_T := zx_in 782 rfl rfl
set_option maxRecDepth 20000 in
theorem wd_751 : (Cond.constantLong "BigDeskModel" (91 : Nat) (-1 : Int64)) ∈ zx_T := zx_in 783 rfl rfl
set_option maxRecDepth 20000 in
theorem wd_752 : (Cond.methodLink "BigDeskLaw" (135 : Nat) y_MO_divide) ∈ zx_T := zx_in 784 rfl rfl
set_option maxRecDepth 20000 in
theorem wd_753 : (Cond.instanceMethod y_MO_divide) ∈ zx_T := zx_in 785 rfl rfl
set_option maxRecDepth 20000 in
theorem wd_754 : (Cond.selects "BigDeskModel" y_MO_divide y_MO_divide) ∈ zx_T := zx_in 786 rfl rfl
set_option maxRecDepth 20000 in
theorem wd_755 : (Cond.code y_MO_divide prog_8_method_29_code (8 : Nat) (Option.none : Option FieldType)) ∈ zx_T := zx_in 787 rfl rfl
set_option maxRecDepth 20000 in
theorem wd_756 : (Cond.methodLink "BigDeskModel" (93 : Nat) y_MO_quotient) ∈ zx_T := zx_in 788 rfl rfl
set_option maxRecDepth 20000 in
theorem wd_758 : (Cond.instanceMethod y_MO_quotient) ∈ zx_T := zx_in 790 rfl rfl
set_option maxRecDepth 20000 in
theorem wd_759 : (Cond.code y_MO_quotient prog_8_method_16_code (6 : Nat) (Option.none : Option FieldType)) ∈ zx_T := zx_in 791 rfl rfl
set_option maxRecDepth 20000 in
theorem wd_760 : (Cond.methodLink "BigDeskModel" (56 : Nat) y_MO_guess) ∈ zx_T := zx_in 792 rfl rfl
set_option maxRecDepth 20000 in
theorem wd_762 : (Cond.instanceMethod y_MO_guess) ∈ zx_T := zx_in 794 rfl rfl
set_option maxRecDepth 20000 in
theorem wd_763 : (Cond.code y_MO_guess prog_8_method_17_code (9 : Nat) (Option.some FieldType.int)) ∈ zx_T := zx_in 795 rfl rfl
set_option maxRecDepth 20000 in
theorem wd_764 : (Cond.methodLink "BigDeskModel" (60 : Nat) y_MO_lessens) ∈ zx_T := zx_in 796 rfl rfl
set_option maxRecDepth 20000 in
theorem wd_766 : (Cond.instanceMethod y_MO_lessens) ∈ zx_T := zx_in 798 rfl rfl
set_option maxRecDepth 20000 in
theorem wd_767 : (Cond.code y_MO_lessens prog_8_method_18_code (6 : Nat) (Option.none : Option FieldType)) ∈ zx_T := zx_in 799 rfl rfl
set_option maxRecDepth 20000 in
theorem wd_768 : (Cond.methodLink "BigDeskLaw" (138 : Nat) y_MO_gcd) ∈ zx_T := zx_in 800 rfl rfl
set_option maxRecDepth 20000 in
theorem wd_769 : (Cond.instanceMethod y_MO_gcd) ∈ zx_T := zx_in 801 rfl rfl
set_option maxRecDepth 20000 in
theorem wd_770 : (Cond.selects "BigDeskModel" y_MO_gcd y_MO_gcd) ∈ zx_T := zx_in 802 rfl rfl
set_option maxRecDepth 20000 in
theorem wd_771 : (Cond.code y_MO_gcd prog_8_method_30_code (4 : Nat) (Option.none : Option FieldType)) ∈ zx_T := zx_in 803 rfl rfl
set_option maxRecDepth 20000 in
theorem wd_772 : (Cond.methodLink "BigDeskLaw" (141 : Nat) y_MO_negate) ∈ zx_T := zx_in 804 rfl rfl
set_option maxRecDepth 20000 in
theorem wd_773 : (Cond.instanceMethod y_MO_negate) ∈ zx_T := zx_in 805 rfl rfl
set_option maxRecDepth 20000 in
theorem wd_774 : (Cond.selects "BigDeskModel" y_MO_negate y_MO_negate) ∈ zx_T := zx_in 806 rfl rfl
set_option maxRecDepth 20000 in
theorem wd_775 : (Cond.code y_MO_negate prog_8_method_31_code (3 : Nat) (Option.none : Option FieldType)) ∈ zx_T := zx_in 807 rfl rfl
set_option maxRecDepth 20000 in
theorem wd_776 : (Cond.methodLink "BigDeskLaw" (145 : Nat) y_MO_compare) ∈ zx_T := zx_in 808 rfl rfl
set_option maxRecDepth 20000 in
theorem wd_777 : (Cond.instanceMethod y_MO_compare) ∈ zx_T := zx_in 809 rfl rfl
set_option maxRecDepth 20000 in
theorem wd_778 : (Cond.selects "BigDeskModel" y_MO_compare y_MO_compare) ∈ zx_T := zx_in 810 rfl rfl
set_option maxRecDepth 20000 in
theorem wd_779 : (Cond.code y_MO_compare prog_8_method_32_code (3 : Nat) (Option.some FieldType.int)) ∈ zx_T := zx_in 811 rfl rfl
set_option maxRecDepth 20000 in
theorem wd_780 : (Cond.methodLink "BigDeskLaw" (149 : Nat) y_MO_rest) ∈ zx_T := zx_in 812 rfl rfl
set_option maxRecDepth 20000 in
theorem wd_781 : (Cond.instanceMethod y_MO_rest) ∈ zx_T := zx_in 813 rfl rfl
set_option maxRecDepth 20000 in
theorem wd_782 : (Cond.selects "BigDeskModel" y_MO_rest y_MO_rest) ∈ zx_T := zx_in 814 rfl rfl
set_option maxRecDepth 20000 in
theorem wd_783 : (Cond.code y_MO_rest prog_8_method_33_code (10 : Nat) (Option.some FieldType.long)) ∈ zx_T := zx_in 815 rfl rfl
set_option maxRecDepth 20000 in
theorem wd_784 : (Cond.methodLink "BigDeskModel" (96 : Nat) y_MO_twice) ∈ zx_T := zx_in 816 rfl rfl
set_option maxRecDepth 20000 in
theorem wd_785 : (Cond.static y_MO_twice) ∈ zx_T := zx_in 817 rfl rfl
set_option maxRecDepth 20000 in
theorem wd_786 : (Cond.code y_MO_twice prog_8_method_34_code (6 : Nat) (Option.some FieldType.long)) ∈ zx_T := zx_in 818 rfl rfl
set_option maxRecDepth 20000 in
theorem wd_787 : (Cond.methodLink "BigDeskLaw" (153 : Nat) y_MO_value) ∈ zx_T := zx_in 819 rfl rfl
set_option maxRecDepth 20000 in
theorem wd_788 : (Cond.instanceMethod y_MO_value) ∈ zx_T := zx_in 820 rfl rfl
set_option maxRecDepth 20000 in
theorem wd_789 : (Cond.selects "BigDeskModel" y_MO_value y_MO_value) ∈ zx_T := zx_in 821 rfl rfl
set_option maxRecDepth 20000 in
theorem wd_790 : (Cond.code y_MO_value prog_8_method_37_code (2 : Nat) (Option.some FieldType.long)) ∈ zx_T := zx_in 822 rfl rfl
set_option maxRecDepth 20000 in
theorem wd_791 : (Cond.methodLink "BigDeskModel" (102 : Nat) y_MO_isLong) ∈ zx_T := zx_in 823 rfl rfl
set_option maxRecDepth 20000 in
theorem wd_793 : (Cond.instanceMethod y_MO_isLong) ∈ zx_T := zx_in 825 rfl rfl
set_option maxRecDepth 20000 in
theorem wd_794 : (Cond.code y_MO_isLong prog_8_method_35_code (5 : Nat) (Option.some FieldType.boolean)) ∈ zx_T := zx_in 826 rfl rfl
set_option maxRecDepth 20000 in
theorem wd_795 : (Cond.constantLong "BigDeskModel" (100 : Nat) (-9223372036854775808 : Int64)) ∈ zx_T := zx_in 827 rfl rfl
set_option maxRecDepth 20000 in
theorem wd_796 : (Cond.methodLink "BigDeskModel" (105 : Nat) y_MO_longOf) ∈ zx_T := zx_in 828 rfl rfl
set_option maxRecDepth 20000 in
theorem wd_798 : (Cond.instanceMethod y_MO_longOf) ∈ zx_T := zx_in 830 rfl rfl
set_option maxRecDepth 20000 in
theorem wd_799 : (Cond.code y_MO_longOf prog_8_method_36_code (5 : Nat) (Option.some FieldType.long)) ∈ zx_T := zx_in 831 rfl rfl
set_option maxRecDepth 20000 in
theorem wd_800 : (Cond.methodLink "BigDeskLaw" (156 : Nat) y_MO_limb) ∈ zx_T := zx_in 832 rfl rfl
set_option maxRecDepth 20000 in
theorem wd_801 : (Cond.instanceMethod y_MO_limb) ∈ zx_T := zx_in 833 rfl rfl
set_option maxRecDepth 20000 in
theorem wd_802 : (Cond.selects "BigDeskModel" y_MO_limb y_MO_limb) ∈ zx_T := zx_in 834 rfl rfl
set_option maxRecDepth 20000 in
theorem wd_803 : (Cond.code y_MO_limb prog_8_method_38_code (5 : Nat) (Option.some FieldType.long)) ∈ zx_T := zx_in 835 rfl rfl
set_option maxRecDepth 20000 in
theorem wd_804 : (Cond.constantLong "BigDeskModel" (109 : Nat) (255 : Int64)) ∈ zx_T := zx_in 836 rfl rfl
set_option maxRecDepth 20000 in
theorem wd_805 : (Cond.constant "BigDeskModel" (63 : Nat) (65536 : Int32)) ∈ zx_T := zx_in 837 rfl rfl
set_option maxRecDepth 20000 in
theorem wd_806 : (Cond.constantLong "BigDeskModel" (111 : Nat) (65536 : Int64)) ∈ zx_T := zx_in 838 rfl rfl
set_option maxRecDepth 20000 in
theorem wd_807 : (Cond.methodLink "BigDeskLaw" (159 : Nat) y_MO_look) ∈ zx_T := zx_in 839 rfl rfl
set_option maxRecDepth 20000 in
theorem wd_808 : (Cond.instanceMethod y_MO_look) ∈ zx_T := zx_in 840 rfl rfl
set_option maxRecDepth 20000 in
theorem wd_809 : (Cond.selects "BigDeskModel" y_MO_look y_MO_look) ∈ zx_T := zx_in 841 rfl rfl
set_option maxRecDepth 20000 in
theorem wd_810 : (Cond.code y_MO_look prog_8_method_39_code (4 : Nat) (Option.some FieldType.int)) ∈ zx_T := zx_in 842 rfl rfl
set_option maxRecDepth 20000 in
theorem wd_811 : (Cond.constantLong "BigDeskModel" (113 : Nat) (3 : Int64)) ∈ zx_T := zx_in 843 rfl rfl
set_option maxRecDepth 20000 in
theorem wd_812 : (Cond.methodLink "BigDeskModel" (115 : Nat) y_MO_bits) ∈ zx_T := zx_in 844 rfl rfl
set_option maxRecDepth 20000 in
theorem wd_814 : (Cond.instanceMethod y_MO_bits) ∈ zx_T := zx_in 846 rfl rfl
set_option maxRecDepth 20000 in
theorem wd_815 : (Cond.code y_MO_bits prog_8_method_20_code (5 : Nat) (Option.some FieldType.int)) ∈ zx_T := zx_in 847 rfl rfl
set_option maxRecDepth 20000 in
theorem wd_816 : (Cond.methodLink "BigDeskLaw" (162 : Nat) y_MO_feed) ∈ zx_T := zx_in 848 rfl rfl
set_option maxRecDepth 20000 in
theorem wd_817 : (Cond.instanceMethod y_MO_feed) ∈ zx_T := zx_in 849 rfl rfl
set_option maxRecDepth 20000 in
theorem wd_818 : (Cond.selects "BigDeskModel" y_MO_feed y_MO_feed) ∈ zx_T := zx_in 850 rfl rfl
set_option maxRecDepth 20000 in
theorem wd_819 : (Cond.code y_MO_feed prog_8_method_40_code (5 : Nat) (Option.some FieldType.int)) ∈ zx_T := zx_in 851 rfl rfl
set_option maxRecDepth 20000 in
theorem wd_820 : (Cond.constantLong "BigDeskModel" (118 : Nat) (8 : Int64)) ∈ zx_T := zx_in 852 rfl rfl
set_option maxRecDepth 20000 in
theorem wd_821 : (Cond.methodLink "BigDeskLaw" (165 : Nat) y_MO_read) ∈ zx_T := zx_in 853 rfl rfl
set_option maxRecDepth 20000 in
theorem wd_822 : (Cond.instanceMethod y_MO_read) ∈ zx_T := zx_in 854 rfl rfl
set_option maxRecDepth 20000 in
theorem wd_823 : (Cond.selects "BigDeskModel" y_MO_read y_MO_read) ∈ zx_T := zx_in 855 rfl rfl
set_option maxRecDepth 20000 in
theorem wd_824 : (Cond.code y_MO_read prog_8_method_42_code (3 : Nat) (Option.some FieldType.boolean)) ∈ zx_T := zx_in 856 rfl rfl
set_option maxRecDepth 20000 in
theorem wd_825 : (Cond.methodLink "BigDeskModel" (123 : Nat) y_MO_reads) ∈ zx_T := zx_in 857 rfl rfl
set_option maxRecDepth 20000 in
theorem wd_827 : (Cond.instanceMethod y_MO_reads) ∈ zx_T := zx_in 859 rfl rfl
set_option maxRecDepth 20000 in
theorem wd_828 : (Cond.code y_MO_reads prog_8_method_41_code (7 : Nat) (Option.some FieldType.boolean)) ∈ zx_T := zx_in 860 rfl rfl
set_option maxRecDepth 20000 in
theorem wd_829 : (Cond.methodLink "BigDeskLaw" (168 : Nat) y_MO_write) ∈ zx_T := zx_in 861 rfl rfl
set_option maxRecDepth 20000 in
theorem wd_830 : (Cond.instanceMethod y_MO_write) ∈ zx_T := zx_in 862 rfl rfl
set_option maxRecDepth 20000 in
theorem wd_831 : (Cond.selects "BigDeskModel" y_MO_write y_MO_write) ∈ zx_T := zx_in 863 rfl rfl
set_option maxRecDepth 20000 in
theorem wd_832 : (Cond.code y_MO_write prog_8_method_43_code (5 : Nat) (Option.some FieldType.int)) ∈ zx_T := zx_in 864 rfl rfl
set_option maxRecDepth 20000 in
theorem wd_833 : (Cond.methodLink "BigDeskModel" (130 : Nat) y_MO_say) ∈ zx_T := zx_in 865 rfl rfl
set_option maxRecDepth 20000 in
theorem wd_835 : (Cond.instanceMethod y_MO_say) ∈ zx_T := zx_in 867 rfl rfl
set_option maxRecDepth 20000 in
theorem wd_836 : (Cond.code y_MO_say prog_8_method_44_code (2 : Nat) (Option.none : Option FieldType)) ∈ zx_T := zx_in 868 rfl rfl
set_option maxRecDepth 20000 in
theorem wd_837 : (Cond.methodLink "BigDeskLaw" (171 : Nat) y_MO_out) ∈ zx_T := zx_in 869 rfl rfl
set_option maxRecDepth 20000 in
theorem wd_838 : (Cond.instanceMethod y_MO_out) ∈ zx_T := zx_in 870 rfl rfl
set_option maxRecDepth 20000 in
theorem wd_839 : (Cond.selects "BigDeskModel" y_MO_out y_MO_out) ∈ zx_T := zx_in 871 rfl rfl
set_option maxRecDepth 20000 in
theorem wd_840 : (Cond.code y_MO_out prog_8_method_45_code (5 : Nat) (Option.some FieldType.long)) ∈ zx_T := zx_in 872 rfl rfl
set_option maxRecDepth 20000 in
theorem wd_841 : (Cond.methodLink "BigDeskLaw" (174 : Nat) y_MO_text) ∈ zx_T := zx_in 873 rfl rfl
set_option maxRecDepth 20000 in
theorem wd_842 : (Cond.instanceMethod y_MO_text) ∈ zx_T := zx_in 874 rfl rfl
set_option maxRecDepth 20000 in
theorem wd_843 : (Cond.selects "BigDeskModel" y_MO_text y_MO_text) ∈ zx_T := zx_in 875 rfl rfl
set_option maxRecDepth 20000 in
theorem wd_844 : (Cond.code y_MO_text prog_8_method_46_code (2 : Nat) (Option.some FieldType.int)) ∈ zx_T := zx_in 876 rfl rfl
set_option maxRecDepth 20000 in
theorem wd_845 : (Cond.constantLong "BigDeskLaw" (96 : Nat) (4294967295 : Int64)) ∈ zx_T := zx_in 877 rfl rfl
set_option maxRecDepth 20000 in
theorem wd_846 : (Cond.sameMethod "java/lang/Throwable" "java/lang/Throwable" "fillInStackTrace" "(I)Ljava/lang/Throwable;") ∈ zx_T := zx_in 878 rfl rfl
end
section
section HB1
/-- the abstract heap: tags, array lengths, int fields (number, address), long fields, reference fields, arrays of small numbers (address, place), arrays of longs, arrays of references -/
def ah_H : Type := (Nat → Nat) × (Nat → Nat) × (Nat → Nat → Int32) × (Nat → Nat → Int64) × (Nat → Nat → Option Nat) × (Nat → Nat → Int32) × (Nat → Nat → Int64) × (Nat → Nat → Option Nat)
def ah_T (h : ah_H) : Nat → Nat := h.1
def ah_N (h : ah_H) : Nat → Nat := h.2.1
def ah_I (h : ah_H) : Nat → Nat → Int32 := h.2.2.1
def ah_L (h : ah_H) : Nat → Nat → Int64 := h.2.2.2.1
def ah_R (h : ah_H) : Nat → Nat → Option Nat := h.2.2.2.2.1
def ah_bI (h : ah_H) : Nat → Nat → Int32 := h.2.2.2.2.2.1
def ah_bL (h : ah_H) : Nat → Nat → Int64 := h.2.2.2.2.2.2.1
def ah_bR (h : ah_H) : Nat → Nat → Option Nat := h.2.2.2.2.2.2.2
def ah_u2 {α : Type} (f : Nat → Nat → α) (k a : Nat) (v : α) : Nat → Nat → α := fun i j => if i = k ∧ j = a then v else f i j
def ah_sI (h : ah_H) (k a : Nat) (v : Int32) : ah_H := (ah_T h, ah_N h, ah_u2 (ah_I h) k a v, ah_L h, ah_R h, ah_bI h, ah_bL h, ah_bR h)
def ah_sL (h : ah_H) (k a : Nat) (v : Int64) : ah_H := (ah_T h, ah_N h, ah_I h, ah_u2 (ah_L h) k a v, ah_R h, ah_bI h, ah_bL h, ah_bR h)
def ah_sR (h : ah_H) (k a : Nat) (v : Option Nat) : ah_H := (ah_T h, ah_N h, ah_I h, ah_L h, ah_u2 (ah_R h) k a v, ah_bI h, ah_bL h, ah_bR h)
def ah_cI (h : ah_H) (a : Nat) (g : Nat → Int32) : ah_H := (ah_T h, ah_N h, ah_I h, ah_L h, ah_R h, va_up (ah_bI h) a g, ah_bL h, ah_bR h)
def ah_cL (h : ah_H) (a : Nat) (g : Nat → Int64) : ah_H := (ah_T h, ah_N h, ah_I h, ah_L h, ah_R h, ah_bI h, va_up (ah_bL h) a g, ah_bR h)
def ah_cR (h : ah_H) (a : Nat) (g : Nat → Option Nat) : ah_H := (ah_T h, ah_N h, ah_I h, ah_L h, ah_R h, ah_bI h, ah_bL h, va_up (ah_bR h) a g)
/-- a new cell at a, of tag t, of length n where it is an array -/
def ah_new (h : ah_H) (a t n : Nat) : ah_H := (va_up (ah_T h) a t, va_up (ah_N h) a n, (fun k j => if j = a then 0 else ah_I h k j), (fun k j => if j = a then 0 else ah_L h k j), (fun k j => if j = a then none else ah_R h k j), va_up (ah_bI h) a (fun _ => 0), va_up (ah_bL h) a (fun _ => 0), va_up (ah_bR h) a (fun _ => none))
def ah_f (h : ah_H) (a : Nat) (q : Nat × Nat) : Value := if q.1 = 0 then .int (ah_I h q.2 a) else if q.1 = 1 then .long (ah_L h q.2 a) else if q.1 = 2 then va_rf (ah_R h q.2 a) else .null
abbrev zG : Type := va_G × (Nat → ClassId) × Nat
def ah_E (G : zG) (h : ah_H) (a : Nat) : va_E :=
  if ah_T h a < 100 then .inr (ah_T h a - 1, (ah_tab.getD (ah_T h a - 1) []).map (ah_f h a))
  else if ah_T h a < 110 then .inl (G.2.1 (ah_T h a), ah_N h a, .inl (ah_bI h a))
  else if ah_T h a < 120 then .inl (G.2.1 (ah_T h a), ah_N h a, .inr (.inl (ah_bL h a)))
  else .inl (G.2.1 (ah_T h a), ah_N h a, .inr (.inr (.inr (.inr (ah_bR h a)))))
theorem ah_E_same {G : zG} {h h' : ah_H} {a : Nat} (hT : ah_T h' a = ah_T h a) (hN : ah_N h' a = ah_N h a) (hI : ∀ k, ah_I h' k a = ah_I h k a) (hL : ∀ k, ah_L h' k a = ah_L h k a) (hR : ∀ k, ah_R h' k a = ah_R h k a) (h1 : ah_bI h' a = ah_bI h a) (h2 : ah_bL h' a = ah_bL h a) (h3 : ah_bR h' a = ah_bR h a) : ah_E G h' a = ah_E G h a := by
  have hf : ah_f h' a = ah_f h a := funext fun q => by unfold ah_f; rw [hI, hL, hR]
  unfold ah_E
  rw [hT, hN, hf, h1, h2, h3]
theorem ah_up {G : zG} {h h' : ah_H} {a : Nat} {e : va_E} (he : ah_E G h' a = e) (ho : ∀ b, b ≠ a → ah_E G h' b = ah_E G h b) : va_up (ah_E G h) a e = ah_E G h' := funext fun b => by
  by_cases hb : b = a
  · subst hb
    rw [va_up_self, he]
  · rw [va_up_ne _ _ hb, ho b hb]
theorem ah_fset {h h' : ah_H} {a : Nat} {t : List (Nat × Nat)} {k : Nat} {q : Nat × Nat} {v : Value} (hk : t[k]? = some q) (hnd : t.Nodup) (hv : ah_f h' a q = v) (ho : ∀ q', q' ≠ q → ah_f h' a q' = ah_f h a q') : t.map (ah_f h' a) = (t.map (ah_f h a)).set k v := by
  have hlt := (List.getElem?_eq_some_iff.mp hk).1
  apply List.ext_getElem?
  intro j
  by_cases hj : j = k
  · subst hj
    rw [List.getElem?_set_self (by rw [List.length_map]; exact hlt), List.getElem?_map, hk, Option.map_some, hv]
  · rw [List.getElem?_set_ne (Ne.symm hj), List.getElem?_map, List.getElem?_map]
    cases hq : t[j]? with
    | none => rfl
    | some q' =>
      have hne : q' ≠ q := fun he => by
        subst he
        exact hj ((List.getElem?_inj (List.getElem?_eq_some_iff.mp hq).1 hnd).mp (hq.trans hk.symm))
      simp only [Option.map_some, ho q' hne]
theorem ah_E_obj {G : zG} {h : ah_H} {a ci : Nat} (ht : ah_T h a = ci + 1) (hci : ci < 99) : ah_E G h a = .inr (ci, (ah_tab.getD ci []).map (ah_f h a)) := by
  unfold ah_E
  rw [if_pos (by omega), ht, Nat.add_sub_cancel]
theorem ah_E_int {G : zG} {h : ah_H} {a t : Nat} (ht : ah_T h a = t) (h1 : 100 ≤ t) (h2 : t < 110) : ah_E G h a = .inl (G.2.1 t, ah_N h a, .inl (ah_bI h a)) := by
  unfold ah_E
  rw [if_neg (by omega), if_pos (by omega), ht]
theorem ah_E_long {G : zG} {h : ah_H} {a t : Nat} (ht : ah_T h a = t) (h1 : 110 ≤ t) (h2 : t < 120) : ah_E G h a = .inl (G.2.1 t, ah_N h a, .inr (.inl (ah_bL h a))) := by
  unfold ah_E
  rw [if_neg (by omega), if_neg (by omega), if_pos (by omega), ht]
theorem ah_E_ref {G : zG} {h : ah_H} {a t : Nat} (ht : ah_T h a = t) (h1 : 120 ≤ t) : ah_E G h a = .inl (G.2.1 t, ah_N h a, .inr (.inr (.inr (.inr (ah_bR h a))))) := by
  unfold ah_E
  rw [if_neg (by omega), if_neg (by omega), if_neg (by omega), ht]
/-- the heap H holds h -/
def ah_Q (G : zG) (h : ah_H) (H : Heap) : Prop := ∃ L : List Nat, (∀ a, ah_T h a ≠ 0 → a ∈ L) ∧ va_P G.1 ah_cl (va_pl L (ah_E G h)) H ∧ va_D (fun q => G.2.2 ≤ q) (va_pl L (ah_E G h))
/-- a method that began over H0 has come to H: it holds h, and nothing below N0 has changed -/
def ah_W (G : zG) (H0 : Heap) (h : ah_H) (H : Heap) (locs : List Loc) : Prop := G.2.2 ≤ H0.size ∧ ah_Q G h H ∧ va_S (fun q => G.2.2 ≤ q) H0 H locs
/-- the classes and array classes of the tables -/
def ah_K (G : zG) (U : State) : Prop := va_K G.1 ah_cl (ah_tys.map (fun q => (G.2.1 q.1, q.2))) U
/-- words that do not stay by themselves, but under warmer tables -/
def zx_kind : Cond → Bool
  | .methodLinkNest .. => true
  | .declares .. => true
  | .castable .. => true
  | .arrayOver (.object _) => true
  | _ => false
theorem zx_warm {w : Cond} {s U : State} (hk : zx_kind w = true) (hW : s.WarmedH U.vm) (h : va_Nw w s) : va_Nw w U := by
  cases w with
  | methodLinkNest => exact va_Nw.warmM hW h
  | declares => exact va_Nw.warmD hW h
  | castable => exact va_Nw.warmC hW h
  | arrayOver ty =>
    cases ty with
    | object C => exact va_AO.moved hW.alike h
    | _ => cases hk
  | _ => cases hk
def zx_str : List (Nat × String) := [(190, "no such register"), (86, "more than 8192 bits"), (192, "not 0 to 8192 bits"), (114, "quotient and rest in one register"), (122, "division by 0"), (143, "the divisor is below 1"), (153, "no long"), (155, "no such limb"), (161, "nothing such to look at"), (163, "not 1 to 8 bytes"), (165, "the tape is full"), (179, "no such byte"), (188, "no such text")]
def zx_nc : List (String × String) := [("java/lang/IllegalStateException", "java/lang/IllegalArgumentException"), ("java/lang/ArithmeticException", "java/lang/IllegalArgumentException")]
/-- what the tables and the old cells give to throws and catches -/
def zx_X (G : zG) (U : State) : Prop := (∀ w ∈ lw_tbl, zx_kind w = true → va_Nw w U) ∧ (∀ q ∈ zx_str, ∃ a : Nat, vk_R "BigDesk" q.1 q.2 a U) ∧ (∀ q ∈ zx_nc, va_Nc q.1 q.2 U) ∧ vx_Zq Bundle.tN "UNASSIGNED_STACK" Bundle.steD (fun q => G.2.2 ≤ q) U U.heap ∧ vx_Zq Bundle.tN "SUPPRESSED_SENTINEL" Bundle.listD (fun q => G.2.2 ≤ q) U U.heap
theorem zx_X.warm {G : zG} {s U : State} (hW : s.WarmedH U.vm) (hq : ∀ a : Nat, a < s.heap.size → ¬ G.2.2 ≤ a → U.heap[a]? = s.heap[a]?) (h : zx_X G s) : zx_X G U :=
  ⟨fun w hw hk => zx_warm hk hW (h.1 w hw hk), fun q hq' => by obtain ⟨a, ha⟩ := h.2.1 q hq'; exact ⟨a, vk_R.warm hW ha⟩, fun q hq' => va_Nc.moved hW.alike (h.2.2.1 q hq'), vx_Zq.moved hW.alike (vx_Zq.kept h.2.2.2.1 hq), vx_Zq.moved hW.alike (vx_Zq.kept h.2.2.2.2 hq)⟩
theorem zx_X.same {G : zG} {s U : State} (hv : U.vm = s.vm) (hh : U.heap = s.heap) (h : zx_X G s) : zx_X G U := by
  obtain ⟨h1, h2, h3, h4, h5⟩ := h
  have ha : s.vm.Alike U.vm := by rw [hv]; exact Vm.Alike.refl s.vm
  refine ⟨fun w hw hk => ?_, fun q hq' => ?_, fun q hq' => va_Nc.moved ha (h3 q hq'), ?_, ?_⟩
  · have hw' := h1 w hw hk
    cases w with
    | methodLinkNest => exact va_Nw.same rfl hv.symm hw'
    | declares => exact va_Nw.same rfl hv.symm hw'
    | castable => exact va_Nw.same rfl hv.symm hw'
    | arrayOver ty =>
      cases ty with
      | object C => exact va_AO.moved ha hw'
      | _ => cases hk
    | _ => cases hk
  · obtain ⟨a, h9⟩ := h2 q hq'
    exact ⟨a, vk_R.same hv h9⟩
  · rw [hh]; exact vx_Zq.moved ha h4
  · rw [hh]; exact vx_Zq.moved ha h5
def ah_B (G : zG) (h : ah_H) (U : State) : Prop := G.2.2 ≤ U.heap.size ∧ ah_Q G h U.heap ∧ ah_K G U ∧ zx_X G U
/-- tags and lengths stay -/
def ah_m (h h' : ah_H) : Prop := ∀ a, ah_T h a ≠ 0 → ah_T h' a = ah_T h a ∧ ah_N h' a = ah_N h a
theorem ah_m.rf {h : ah_H} : ah_m h h := fun _ _ => ⟨rfl, rfl⟩
theorem ah_m.tr {h1 h2 h3 : ah_H} (a : ah_m h1 h2) (b : ah_m h2 h3) : ah_m h1 h3 := fun q hq => by
  obtain ⟨a1, a2⟩ := a q hq
  obtain ⟨b1, b2⟩ := b q (by rw [a1]; exact hq)
  exact ⟨b1.trans a1, b2.trans a2⟩
theorem ah_m.eq {h h' h'' : ah_H} (a : ah_m h h') (e : h'' = h') : ah_m h h'' := e ▸ a
theorem ah_m.st {h0 h h' : ah_H} (a : ah_m h0 h) (e1 : ah_T h' = ah_T h) (e2 : ah_N h' = ah_N h) : ah_m h0 h' := fun q hq => by rw [e1, e2]; exact a q hq
theorem ah_m.nw {h0 h : ah_H} {q t n : Nat} (a : ah_m h0 h) (hq : ah_T h q = 0) : ah_m h0 (ah_new h q t n) := fun b hb => by
  have hbq : b ≠ q := fun z => by
    have := (a b hb).1
    rw [z, hq] at this
    rw [z] at hb
    exact hb this.symm
  exact ⟨(va_up_ne _ _ hbq).trans (a b hb).1, (va_up_ne _ _ hbq).trans (a b hb).2⟩
theorem ah_m.tg {h h' : ah_H} {a t : Nat} (m : ah_m h h') (ht : ah_T h a = t) (h0 : t ≠ 0) : ah_T h' a = t := (m a (by rw [ht]; exact h0)).1.trans ht
theorem ah_put {G : zG} {H0 H1 : Heap} {h h' : ah_H} {locs1 : List Loc} {a k0 : Nat} {e : va_E} {L : List Nat} (hz : G.2.2 ≤ H0.size) (hL : ∀ b, ah_T h b ≠ 0 → b ∈ L) (hT : ∀ b, ah_T h' b ≠ 0 → ah_T h b ≠ 0) (hD : va_D (fun q => G.2.2 ≤ q) (va_pl L (ah_E G h))) (ha : a ∈ L) (hk : (va_pl L (ah_E G h))[k0]? = some (a, ah_E G h a)) (hup : va_up (ah_E G h) a e = ah_E G h') (hP1 : va_P G.1 ah_cl ((va_pl L (ah_E G h)).set k0 (a, e)) H1) (hD1 : va_D (fun q => G.2.2 ≤ q) ((va_pl L (ah_E G h)).set k0 (a, e))) (hS1 : va_S (fun q => G.2.2 ≤ q) H0 H1 locs1) : ah_W G H0 h' H1 locs1 := by
  have hs : (va_pl L (ah_E G h)).set k0 (a, e) = va_pl L (ah_E G h') := by
    have := va_pl_set (X := []) (e := e) hD ha hk
    rw [hup] at this
    exact this
  rw [hs] at hP1 hD1
  exact ⟨hz, ⟨L, fun b hb => hL b (hT b hb), hP1, hD1⟩, hS1⟩
end HB1
end
section
section HB2
theorem ah_E_sI (G : zG) (h : ah_H) (k a : Nat) (v : Int32) {b : Nat} (hb : b ≠ a) : ah_E G (ah_sI h k a v) b = ah_E G h b :=
  ah_E_same rfl rfl (fun j => by show ah_u2 (ah_I h) k a v j b = _; unfold ah_u2; rw [if_neg (fun q => hb q.2)]) (fun _ => rfl) (fun _ => rfl) rfl rfl rfl
theorem ah_E_sL (G : zG) (h : ah_H) (k a : Nat) (v : Int64) {b : Nat} (hb : b ≠ a) : ah_E G (ah_sL h k a v) b = ah_E G h b :=
  ah_E_same rfl rfl (fun _ => rfl) (fun j => by show ah_u2 (ah_L h) k a v j b = _; unfold ah_u2; rw [if_neg (fun q => hb q.2)]) (fun _ => rfl) rfl rfl rfl
theorem ah_E_sR (G : zG) (h : ah_H) (k a : Nat) (v : Option Nat) {b : Nat} (hb : b ≠ a) : ah_E G (ah_sR h k a v) b = ah_E G h b :=
  ah_E_same rfl rfl (fun _ => rfl) (fun _ => rfl) (fun j => by show ah_u2 (ah_R h) k a v j b = _; unfold ah_u2; rw [if_neg (fun q => hb q.2)]) rfl rfl rfl
theorem ah_E_cI (G : zG) (h : ah_H) (a : Nat) (g : Nat → Int32) {b : Nat} (hb : b ≠ a) : ah_E G (ah_cI h a g) b = ah_E G h b :=
  ah_E_same rfl rfl (fun _ => rfl) (fun _ => rfl) (fun _ => rfl) (va_up_ne _ _ hb) rfl rfl
theorem ah_E_cL (G : zG) (h : ah_H) (a : Nat) (g : Nat → Int64) {b : Nat} (hb : b ≠ a) : ah_E G (ah_cL h a g) b = ah_E G h b :=
  ah_E_same rfl rfl (fun _ => rfl) (fun _ => rfl) (fun _ => rfl) rfl (va_up_ne _ _ hb) rfl
theorem ah_E_cR (G : zG) (h : ah_H) (a : Nat) (g : Nat → Option Nat) {b : Nat} (hb : b ≠ a) : ah_E G (ah_cR h a g) b = ah_E G h b :=
  ah_E_same rfl rfl (fun _ => rfl) (fun _ => rfl) (fun _ => rfl) rfl rfl (va_up_ne _ _ hb)
theorem ah_E_new (G : zG) (h : ah_H) (a t n : Nat) {b : Nat} (hb : b ≠ a) : ah_E G (ah_new h a t n) b = ah_E G h b :=
  ah_E_same (va_up_ne _ _ hb) (va_up_ne _ _ hb) (fun _ => if_neg hb) (fun _ => if_neg hb) (fun _ => if_neg hb) (va_up_ne _ _ hb) (va_up_ne _ _ hb) (va_up_ne _ _ hb)
/-- h' is h but for one field of the object at a -/
def ah_one (h h' : ah_H) (a : Nat) (q : Nat × Nat) (v : Value) : Prop := ah_T h' = ah_T h ∧ ah_f h' a q = v ∧ (∀ q', q' ≠ q → ah_f h' a q' = ah_f h a q') ∧ ∀ (G : zG) (b : Nat), b ≠ a → ah_E G h' b = ah_E G h b
theorem ah_one_I (h : ah_H) (k a : Nat) (v : Int32) : ah_one h (ah_sI h k a v) a (0, k) (.int v) := by
  refine ⟨rfl, ?_, ?_, fun G b hb => ah_E_sI G h k a v hb⟩
  · show Value.int (ah_u2 (ah_I h) k a v k a) = _
    unfold ah_u2
    rw [if_pos ⟨rfl, rfl⟩]
  · rintro ⟨x, y⟩ hq
    unfold ah_f
    by_cases hx : x = 0
    · subst hx
      have hy : y ≠ k := fun z => hq (by rw [z])
      show Value.int (ah_u2 (ah_I h) k a v y a) = _
      unfold ah_u2
      rw [if_neg (fun z => hy z.1)]
      rfl
    · simp only [hx, if_false]
      rfl
theorem ah_one_L (h : ah_H) (k a : Nat) (v : Int64) : ah_one h (ah_sL h k a v) a (1, k) (.long v) := by
  refine ⟨rfl, ?_, ?_, fun G b hb => ah_E_sL G h k a v hb⟩
  · show Value.long (ah_u2 (ah_L h) k a v k a) = _
    unfold ah_u2
    rw [if_pos ⟨rfl, rfl⟩]
  · rintro ⟨x, y⟩ hq
    unfold ah_f
    by_cases hx : x = 1
    · subst hx
      have hy : y ≠ k := fun z => hq (by rw [z])
      show Value.long (ah_u2 (ah_L h) k a v y a) = _
      unfold ah_u2
      rw [if_neg (fun z => hy z.1)]
      rfl
    · simp only [hx, if_false]
      rfl
theorem ah_one_R (h : ah_H) (k a : Nat) (v : Option Nat) : ah_one h (ah_sR h k a v) a (2, k) (va_rf v) := by
  refine ⟨rfl, ?_, ?_, fun G b hb => ah_E_sR G h k a v hb⟩
  · show va_rf (ah_u2 (ah_R h) k a v k a) = _
    unfold ah_u2
    rw [if_pos ⟨rfl, rfl⟩]
  · rintro ⟨x, y⟩ hq
    unfold ah_f
    by_cases hx : x = 2
    · subst hx
      have hy : y ≠ k := fun z => hq (by rw [z])
      show va_rf (ah_u2 (ah_R h) k a v y a) = _
      unfold ah_u2
      rw [if_neg (fun z => hy z.1)]
      rfl
    · simp only [hx, if_false]
      rfl
variable {p : Program} {l : Launch} {e : Env} {R : Room} {s : State} {m : MethodId} {args : Array Value} {below : List Frame} {meth : Method} {c : Code} {H : Heap} {locs : List Loc} {cells slots : Nat} {Q : State → Prop}
variable {cc : ByteArray} {pc : Nat} {ls : Array Slot} {rest : List Value} {G : zG} {h : ah_H} {a : Nat}
theorem ah_W.cell (hW : ah_W G s.heap h H locs) {t : Nat} (ht : ah_T h a = t) (h0 : 0 < t) : ∃ (L : List Nat) (k0 : Nat), (∀ b, ah_T h b ≠ 0 → b ∈ L) ∧ va_P G.1 ah_cl (va_pl L (ah_E G h)) H ∧ va_D (fun q => G.2.2 ≤ q) (va_pl L (ah_E G h)) ∧ a ∈ L ∧ (va_pl L (ah_E G h))[k0]? = some (a, ah_E G h a) := by
  obtain ⟨-, ⟨L, hL, hP, hD⟩, -⟩ := hW
  have ha := hL a (by omega)
  obtain ⟨k0, hk0⟩ := va_pl_get (X := []) (f := ah_E G h) ha
  exact ⟨L, k0, hL, hP, hD, ha, hk0⟩
theorem hb_get (hexec : p.tables.exec = Jvm.exec) (hb : c.code = cc) {own ref C : String} {T : u_T} {N ci index : Nat} {Ts : List Cond} (hts : ∀ w ∈ Ts, w.before args s = true) (hin : ∀ w ∈ u_ws C T N, w ∈ Ts) (hown : s.vm.findClass own = some m.cls) (hK : ah_K G s) (hW : ah_W G s.heap h H locs) (ht : ah_T h a = ci + 1) (hc : ah_cl[ci]? = some (C, T, N)) (hci : ci < 99) (k : Nat) (hk : k < N) (hlink : (Cond.fieldLink own index ref (T k).2.1 (T k).2.2.1).before args s = true) (hsame : ∀ x, s.fieldFound? (T k).1 (T k).2.1 (T k).2.2.1 = some x → s.fieldFound? ref (T k).2.1 (T k).2.2.1 = some x) {q : Nat × Nat} (hq : (ah_tab.getD ci [])[k]? = some q) {v : Value} (hv : ah_f h a q = v) (hdg : decode cc pc = .ok (.getfield index, 3)) (kk : W p l e R s m args below meth c H locs cells slots Q (F0 m (pc + 3) ls (v :: rest))) : W p l e R s m args below meth c H locs cells slots Q (F0 m pc ls (.ref a :: rest)) := by
  obtain ⟨L, k0, hL, hP, hD, ha, hk0⟩ := hW.cell ht (by omega)
  rw [ah_E_obj ht hci] at hk0
  exact va_get hexec hb hts hin hown hK hP k0 hk0 hc k hk hlink hsame (by rw [List.getElem?_map, hq]; exact congrArg some hv) hdg kk
theorem hb_put (hexec : p.tables.exec = Jvm.exec) (hb : c.code = cc) {own ref C : String} {T : u_T} {N ci index : Nat} {Ts : List Cond} (hts : ∀ w ∈ Ts, w.before args s = true) (hin : ∀ w ∈ u_ws C T N, w ∈ Ts) (ty0 : Nat → FieldType) (hty : ∀ k, k < N → parseFieldDescriptor (T k).2.2.1 = some (ty0 k)) (hnm : ∀ a, a < N → ∀ b, b < N → a ≠ b → (T a).2.1 ≠ (T b).2.1) (hown : s.vm.findClass own = some m.cls) (hK : ah_K G s) (hW : ah_W G s.heap h H locs) (ht : ah_T h a = ci + 1) (hc : ah_cl[ci]? = some (C, T, N)) (hci : ci < 99) (k : Nat) (hk : k < N) (hlink : (Cond.fieldLink own index ref (T k).2.1 (T k).2.2.1).before args s = true) (hsame : ∀ x, s.fieldFound? (T k).1 (T k).2.1 (T k).2.2.1 = some x → s.fieldFound? ref (T k).2.1 (T k).2.2.1 = some x) (hfin : (T k).2.2.2 = false) {ty : FieldType} (hd : parseFieldDescriptor (T k).2.2.1 = some ty) {q : Nat × Nat} (hq : (ah_tab.getD ci [])[k]? = some q) (hnd : (ah_tab.getD ci []).Nodup) {v : Value} (hn : narrow ty v = v) (hfit : fits ty v = true) {h' : ah_H} (h1 : ah_one h h' a q v) (hdg : decode cc pc = .ok (.putfield index, 3)) (kk : ∀ (H1 : Heap) (locs1 : List Loc) (hz : ah_H), hz = h' → ah_W G s.heap hz H1 locs1 → W p l e R s m args below meth c H1 locs1 cells slots Q (F0 m (pc + 3) ls rest)) : W p l e R s m args below meth c H locs cells slots Q (F0 m pc ls (v :: .ref a :: rest)) := by
  obtain ⟨L, k0, hL, hP, hD, ha, hk0⟩ := hW.cell ht (by omega)
  have hk1 := hk0
  rw [ah_E_obj ht hci] at hk1
  have hl := (List.getElem?_eq_some_iff.mp hq).1
  refine va_put hexec hb hts hin ty0 hty hnm hown hK hP hD hW.2.2 k0 hk1 hc k hk hlink hsame hfin hd hn hfit (by rw [List.length_map]; exact hl) hdg (fun H1 locs1 hP1 hD1 hS1 => kk H1 locs1 _ rfl ?_)
  refine ah_put hW.1 hL (fun b hb => by rw [← h1.1]; exact hb) hD ha hk0 ?_ hP1 hD1 hS1
  refine ah_up ?_ (h1.2.2.2 G)
  rw [ah_E_obj (ci := ci) (by rw [h1.1]; exact ht) hci, ah_fset hq hnd h1.2.1 h1.2.2.1]
theorem hb_putF (hexec : p.tables.exec = Jvm.exec) (hb : c.code = cc) {own ref C : String} {T : u_T} {N ci index : Nat} {Ts : List Cond} (hts : ∀ w ∈ Ts, w.before args s = true) (hin : ∀ w ∈ u_ws C T N, w ∈ Ts) (ty0 : Nat → FieldType) (hty : ∀ k, k < N → parseFieldDescriptor (T k).2.2.1 = some (ty0 k)) (hnm : ∀ a, a < N → ∀ b, b < N → a ≠ b → (T a).2.1 ≠ (T b).2.1) (hown : s.vm.findClass own = some m.cls) (hK : ah_K G s) (hW : ah_W G s.heap h H locs) (ht : ah_T h a = ci + 1) (hc : ah_cl[ci]? = some (C, T, N)) (hci : ci < 99) (k : Nat) (hk : k < N) (hlink : (Cond.fieldLink own index ref (T k).2.1 (T k).2.2.1).before args s = true) (hsame : ∀ x, s.fieldFound? (T k).1 (T k).2.1 (T k).2.2.1 = some x → s.fieldFound? ref (T k).2.1 (T k).2.2.1 = some x) (hfin : (T k).2.2.2 = true) (hin2 : meth.name = "<init>") (hdecl : (T k).1 = own) {ty : FieldType} (hd : parseFieldDescriptor (T k).2.2.1 = some ty) {q : Nat × Nat} (hq : (ah_tab.getD ci [])[k]? = some q) (hnd : (ah_tab.getD ci []).Nodup) {v : Value} (hn : narrow ty v = v) (hfit : fits ty v = true) {h' : ah_H} (h1 : ah_one h h' a q v) (hdg : decode cc pc = .ok (.putfield index, 3)) (kk : ∀ (H1 : Heap) (locs1 : List Loc) (hz : ah_H), hz = h' → ah_W G s.heap hz H1 locs1 → W p l e R s m args below meth c H1 locs1 cells slots Q (F0 m (pc + 3) ls rest)) : W p l e R s m args below meth c H locs cells slots Q (F0 m pc ls (v :: .ref a :: rest)) := by
  obtain ⟨L, k0, hL, hP, hD, ha, hk0⟩ := hW.cell ht (by omega)
  have hk1 := hk0
  rw [ah_E_obj ht hci] at hk1
  have hl := (List.getElem?_eq_some_iff.mp hq).1
  refine va_putF hexec hb hts hin ty0 hty hnm hown hK hP hD hW.2.2 k0 hk1 hc k hk hlink hsame hfin hin2 hdecl hd hn hfit (by rw [List.length_map]; exact hl) hdg (fun H1 locs1 hP1 hD1 hS1 => kk H1 locs1 _ rfl ?_)
  refine ah_put hW.1 hL (fun b hb => by rw [← h1.1]; exact hb) hD ha hk0 ?_ hP1 hD1 hS1
  refine ah_up ?_ (h1.2.2.2 G)
  rw [ah_E_obj (ci := ci) (by rw [h1.1]; exact ht) hci, ah_fset hq hnd h1.2.1 h1.2.2.1]
/-! arrays -/
theorem hb_lald (hexec : p.tables.exec = Jvm.exec) (hb : c.code = cc) (hK : ah_K G s) (hW : ah_W G s.heap h H locs) {t : Nat} (ht : ah_T h a = t) (h1 : 110 ≤ t) (h2 : t < 120) (t0 : Nat) (hy : ah_tys[t0]? = some (t, .long)) {i : Int32} (hin : vp_in i (ah_N h a)) (hdg : decode cc pc = .ok (.laload, 1)) (kk : W p l e R s m args below meth c H locs cells slots Q (F0 m (pc + 1) ls (.long (ah_bL h a i.toNatClampNeg) :: rest))) : W p l e R s m args below meth c H locs cells slots Q (F0 m pc ls (.int i :: .ref a :: rest)) := by
  obtain ⟨L, k0, hL, hP, hD, ha, hk0⟩ := hW.cell ht (by omega)
  rw [ah_E_long ht h1 h2] at hk0
  exact va_lald hexec hb hK hP k0 t0 hk0 (by rw [List.getElem?_map, hy]; rfl) hin hdg kk
theorem hb_last (hexec : p.tables.exec = Jvm.exec) (hb : c.code = cc) (hK : ah_K G s) (hW : ah_W G s.heap h H locs) {t : Nat} (ht : ah_T h a = t) (h1 : 110 ≤ t) (h2 : t < 120) (t0 : Nat) (hy : ah_tys[t0]? = some (t, .long)) {i : Int32} {x : Int64} (hin : vp_in i (ah_N h a)) (hdg : decode cc pc = .ok (.lastore, 1)) (kk : ∀ (H1 : Heap) (locs1 : List Loc) (hz : ah_H), hz = ah_cL h a (vp_updL (ah_bL h a) i.toNatClampNeg x) → ah_W G s.heap hz H1 locs1 → W p l e R s m args below meth c H1 locs1 cells slots Q (F0 m (pc + 1) ls rest)) : W p l e R s m args below meth c H locs cells slots Q (F0 m pc ls (.long x :: .int i :: .ref a :: rest)) := by
  obtain ⟨L, k0, hL, hP, hD, ha, hk0⟩ := hW.cell ht (by omega)
  have hk1 := hk0
  rw [ah_E_long ht h1 h2] at hk1
  refine va_last hexec hb hK hP hD hW.2.2 k0 t0 hk1 (by rw [List.getElem?_map, hy]; rfl) hin hdg (fun H1 locs1 hP1 hD1 hS1 => kk H1 locs1 _ rfl ?_)
  refine ah_put hW.1 hL (fun b hb => hb) hD ha hk0 (ah_up ?_ (fun b hb => ah_E_cL G h a _ hb)) hP1 hD1 hS1
  rw [ah_E_long (t := t) (by exact ht) h1 h2]
  show Sum.inl (G.2.1 t, ah_N h a, Sum.inr (Sum.inl (va_up (ah_bL h) a _ a))) = _
  rw [va_up_self]
theorem hb_iald (hexec : p.tables.exec = Jvm.exec) (hb : c.code = cc) (hK : ah_K G s) (hW : ah_W G s.heap h H locs) {t : Nat} (ht : ah_T h a = t) (h1 : 100 ≤ t) (h2 : t < 110) (t0 : Nat) (hy : ah_tys[t0]? = some (t, .int)) {i : Int32} (hin : vp_in i (ah_N h a)) (hdg : decode cc pc = .ok (.iaload, 1)) (kk : W p l e R s m args below meth c H locs cells slots Q (F0 m (pc + 1) ls (.int (ah_bI h a i.toNatClampNeg) :: rest))) : W p l e R s m args below meth c H locs cells slots Q (F0 m pc ls (.int i :: .ref a :: rest)) := by
  obtain ⟨L, k0, hL, hP, hD, ha, hk0⟩ := hW.cell ht (by omega)
  rw [ah_E_int ht h1 h2] at hk0
  exact va_iald hexec hb hK hP k0 t0 hk0 (by rw [List.getElem?_map, hy]; rfl) hin hdg kk
theorem hb_bald (hexec : p.tables.exec = Jvm.exec) (hb : c.code = cc) (hK : ah_K G s) (hW : ah_W G s.heap h H locs) {t : Nat} (ht : ah_T h a = t) (h1 : 100 ≤ t) (h2 : t < 110) (t0 : Nat) (hy : ah_tys[t0]? = some (t, .byte)) {i : Int32} (hin : vp_in i (ah_N h a)) (hdg : decode cc pc = .ok (.baload, 1)) (kk : W p l e R s m args below meth c H locs cells slots Q (F0 m (pc + 1) ls (.int (ah_bI h a i.toNatClampNeg) :: rest))) : W p l e R s m args below meth c H locs cells slots Q (F0 m pc ls (.int i :: .ref a :: rest)) := by
  obtain ⟨L, k0, hL, hP, hD, ha, hk0⟩ := hW.cell ht (by omega)
  rw [ah_E_int ht h1 h2] at hk0
  exact va_bald hexec hb hK hP k0 t0 hk0 (by rw [List.getElem?_map, hy]; rfl) hin hdg kk
theorem hb_iast (hexec : p.tables.exec = Jvm.exec) (hb : c.code = cc) (hK : ah_K G s) (hW : ah_W G s.heap h H locs) {t : Nat} (ht : ah_T h a = t) (h1 : 100 ≤ t) (h2 : t < 110) (t0 : Nat) (hy : ah_tys[t0]? = some (t, .int)) {i : Int32} {x : Int32} (hin : vp_in i (ah_N h a)) (hdg : decode cc pc = .ok (.iastore, 1)) (kk : ∀ (H1 : Heap) (locs1 : List Loc) (hz : ah_H), hz = ah_cI h a (upd (ah_bI h a) i.toNatClampNeg x) → ah_W G s.heap hz H1 locs1 → W p l e R s m args below meth c H1 locs1 cells slots Q (F0 m (pc + 1) ls rest)) : W p l e R s m args below meth c H locs cells slots Q (F0 m pc ls (.int x :: .int i :: .ref a :: rest)) := by
  obtain ⟨L, k0, hL, hP, hD, ha, hk0⟩ := hW.cell ht (by omega)
  have hk1 := hk0
  rw [ah_E_int ht h1 h2] at hk1
  refine va_iast hexec hb hK hP hD hW.2.2 k0 t0 hk1 (by rw [List.getElem?_map, hy]; rfl) hin hdg (fun H1 locs1 hP1 hD1 hS1 => kk H1 locs1 _ rfl ?_)
  refine ah_put hW.1 hL (fun b hb => hb) hD ha hk0 (ah_up ?_ (fun b hb => ah_E_cI G h a _ hb)) hP1 hD1 hS1
  rw [ah_E_int (t := t) (by exact ht) h1 h2]
  show Sum.inl (G.2.1 t, ah_N h a, Sum.inl (va_up (ah_bI h) a _ a)) = _
  rw [va_up_self]
theorem hb_bast (hexec : p.tables.exec = Jvm.exec) (hb : c.code = cc) (hK : ah_K G s) (hW : ah_W G s.heap h H locs) {t : Nat} (ht : ah_T h a = t) (h1 : 100 ≤ t) (h2 : t < 110) (t0 : Nat) (hy : ah_tys[t0]? = some (t, .byte)) {i : Int32} {x : Int32} (hin : vp_in i (ah_N h a)) (hdg : decode cc pc = .ok (.bastore, 1)) (kk : ∀ (H1 : Heap) (locs1 : List Loc) (hz : ah_H), hz = ah_cI h a (upd (ah_bI h a) i.toNatClampNeg (vp_nar .byte x)) → ah_W G s.heap hz H1 locs1 → W p l e R s m args below meth c H1 locs1 cells slots Q (F0 m (pc + 1) ls rest)) : W p l e R s m args below meth c H locs cells slots Q (F0 m pc ls (.int x :: .int i :: .ref a :: rest)) := by
  obtain ⟨L, k0, hL, hP, hD, ha, hk0⟩ := hW.cell ht (by omega)
  have hk1 := hk0
  rw [ah_E_int ht h1 h2] at hk1
  refine va_bast hexec hb hK hP hD hW.2.2 k0 t0 hk1 (by rw [List.getElem?_map, hy]; rfl) hin hdg (fun H1 locs1 hP1 hD1 hS1 => kk H1 locs1 _ rfl ?_)
  refine ah_put hW.1 hL (fun b hb => hb) hD ha hk0 (ah_up ?_ (fun b hb => ah_E_cI G h a _ hb)) hP1 hD1 hS1
  rw [ah_E_int (t := t) (by exact ht) h1 h2]
  show Sum.inl (G.2.1 t, ah_N h a, Sum.inl (va_up (ah_bI h) a _ a)) = _
  rw [va_up_self]
theorem hb_aldq (hexec : p.tables.exec = Jvm.exec) (hb : c.code = cc) (hK : ah_K G s) (hW : ah_W G s.heap h H locs) {t : Nat} (ht : ah_T h a = t) (h1 : 120 ≤ t) (t0 : Nat) {C : String} (hy : ah_tys[t0]? = some (t, .object C)) {i : Int32} (hin : vp_in i (ah_N h a)) {b : Nat} (hv : ah_bR h a i.toNatClampNeg = some b) (hdg : decode cc pc = .ok (.aaload, 1)) (kk : W p l e R s m args below meth c H locs cells slots Q (F0 m (pc + 1) ls (.ref b :: rest))) : W p l e R s m args below meth c H locs cells slots Q (F0 m pc ls (.int i :: .ref a :: rest)) := by
  obtain ⟨L, k0, hL, hP, hD, ha, hk0⟩ := hW.cell ht (by omega)
  rw [ah_E_ref ht h1] at hk0
  refine va_aldq hexec hb hK hP k0 t0 hk0 (by rw [List.getElem?_map, hy]; rfl) hin hdg ?_
  rw [hv]
  exact kk
theorem hb_astq (hexec : p.tables.exec = Jvm.exec) (hb : c.code = cc) (hK : ah_K G s) (hW : ah_W G s.heap h H locs) {t : Nat} (ht : ah_T h a = t) (h1 : 120 ≤ t) (t0 ci : Nat) {r : vw_C} (hy : ah_tys[t0]? = some (t, .object r.1)) {v : Nat} (hv : ah_T h v = ci + 1) (hci : ci < 99) (hc : ah_cl[ci]? = some r) {i : Int32} (hin : vp_in i (ah_N h a)) (hdg : decode cc pc = .ok (.aastore, 1)) (kk : ∀ (H1 : Heap) (locs1 : List Loc) (hz : ah_H), hz = ah_cR h a (va_up (ah_bR h a) i.toNatClampNeg (some v)) → ah_W G s.heap hz H1 locs1 → W p l e R s m args below meth c H1 locs1 cells slots Q (F0 m (pc + 1) ls rest)) : W p l e R s m args below meth c H locs cells slots Q (F0 m pc ls (.ref v :: .int i :: .ref a :: rest)) := by
  obtain ⟨L, k0, hL, hP, hD, ha, hk0⟩ := hW.cell ht (by omega)
  have hk1 := hk0
  rw [ah_E_ref ht h1] at hk1
  obtain ⟨kv, hkv⟩ := va_pl_get (X := []) (f := ah_E G h) (hL v (by omega))
  rw [ah_E_obj hv hci] at hkv
  refine va_astq hexec hb hK hP hD hW.2.2 k0 t0 kv ci hk1 (by rw [List.getElem?_map, hy]; rfl) hkv hc hin hdg (fun H1 locs1 hP1 hD1 hS1 => kk H1 locs1 _ rfl ?_)
  refine ah_put hW.1 hL (fun b hb => hb) hD ha hk0 (ah_up ?_ (fun b hb => ah_E_cR G h a _ hb)) hP1 hD1 hS1
  rw [ah_E_ref (t := t) (by exact ht) h1]
  show Sum.inl (G.2.1 t, ah_N h a, Sum.inr (Sum.inr (Sum.inr (Sum.inr (va_up (ah_bR h) a _ a))))) = _
  rw [va_up_self]
theorem hb_alenI (hexec : p.tables.exec = Jvm.exec) (hb : c.code = cc) (hK : ah_K G s) (hW : ah_W G s.heap h H locs) {t : Nat} (ht : ah_T h a = t) (h1 : 100 ≤ t) (t0 : Nat) {ty : FieldType} (hy : ah_tys[t0]? = some (t, ty)) (hdg : decode cc pc = .ok (.arraylength, 1)) (kk : W p l e R s m args below meth c H locs cells slots Q (F0 m (pc + 1) ls (.int (nI (ah_N h a)) :: rest))) : W p l e R s m args below meth c H locs cells slots Q (F0 m pc ls (.ref a :: rest)) := by
  obtain ⟨L, k0, hL, hP, hD, ha, hk0⟩ := hW.cell ht (by omega)
  have hy' : (ah_tys.map (fun q => (G.2.1 q.1, q.2)))[t0]? = some (G.2.1 t, ty) := by rw [List.getElem?_map, hy]; rfl
  by_cases h2 : t < 110
  · rw [ah_E_int ht h1 h2] at hk0
    exact va_alen hexec hb hK hP k0 t0 hk0 hy' rfl hdg kk
  · by_cases h3 : t < 120
    · rw [ah_E_long ht (by omega) h3] at hk0
      exact va_alen hexec hb hK hP k0 t0 hk0 hy' rfl hdg kk
    · rw [ah_E_ref ht (by omega)] at hk0
      exact va_alen hexec hb hK hP k0 t0 hk0 hy' rfl hdg kk
end HB2
end
section
section HB3
def ah_d (q : Nat × Nat) : Value := if q.1 = 0 then .int 0 else if q.1 = 1 then .long 0 else .null
theorem ah_f_new (h : ah_H) (a t n : Nat) : ah_f (ah_new h a t n) a = ah_d := funext fun q => by
  unfold ah_f ah_d
  show (if q.1 = 0 then Value.int (if a = a then 0 else ah_I h q.2 a) else if q.1 = 1 then Value.long (if a = a then 0 else ah_L h q.2 a) else if q.1 = 2 then va_rf (if a = a then none else ah_R h q.2 a) else Value.null) = _
  simp only [if_true]
  by_cases h2 : q.1 = 2
  · simp [h2, va_rf]
  · simp [h2]
theorem ah_push {G : zG} {H0 H1 : Heap} {h : ah_H} {q t n : Nat} {e : va_E} {locs : List Loc} {L : List Nat} (hz : G.2.2 ≤ H0.size) (hL : ∀ b, ah_T h b ≠ 0 → b ∈ L) (hP1 : va_P G.1 ah_cl (va_pl L (ah_E G h) ++ [(q, e)]) H1) (hD1 : va_D (fun q => G.2.2 ≤ q) (va_pl L (ah_E G h) ++ [(q, e)])) (hS1 : va_S (fun q => G.2.2 ≤ q) H0 H1 locs) (he : ah_E G (ah_new h q t n) q = e) : ah_T h q = 0 ∧ ah_W G H0 (ah_new h q t n) H1 locs := by
  have hq : q ∉ L := fun hm => by
    obtain ⟨k, hk⟩ := va_pl_get (X := []) (f := ah_E G h) hm
    have hk' : (va_pl L (ah_E G h))[k]? = some (q, ah_E G h q) := hk
    have hlt := (List.getElem?_eq_some_iff.mp hk').1
    have := hD1.1 k (va_pl L (ah_E G h)).length (q, ah_E G h q) (q, e) (by rw [List.getElem?_append_left hlt]; exact hk') (by rw [List.getElem?_append_right (Nat.le_refl _), Nat.sub_self]; rfl) rfl
    omega
  have h0 : ah_T h q = 0 := Classical.byContradiction fun hn => hq (hL q hn)
  have hs : va_pl L (ah_E G h) ++ [(q, e)] = va_pl (L ++ [q]) (ah_E G (ah_new h q t n)) := by
    rw [va_pl_push hq, ah_up he (fun b hb => ah_E_new G h q t n hb)]
  rw [hs] at hP1 hD1
  refine ⟨h0, hz, ⟨L ++ [q], ?_, hP1, hD1⟩, hS1⟩
  intro b hb
  by_cases hbq : b = q
  · subst hbq
    simp
  · refine List.mem_append_left _ (hL b ?_)
    have : ah_T (ah_new h q t n) b = ah_T h b := va_up_ne _ _ hbq
    rw [← this]
    exact hb
theorem ah_K.moved {G : zG} {u U : State} (hvm : u.vm.Alike U.vm) (h : ah_K G u) : ah_K G U := va_K.moved hvm h
variable {p : Program} {l : Launch} {e : Env} {R : Room} {s : State} {m : MethodId} {args : Array Value} {below : List Frame} {meth : Method} {c : Code} {H : Heap} {locs : List Loc} {cells slots : Nat} {Q : State → Prop}
variable {cc : ByteArray} {pc : Nat} {ls : Array Slot} {rest : List Value} {G : zG} {h : ah_H} {a : Nat}
theorem hb_new (hexec : p.tables.exec = Jvm.exec) (hb : c.code = cc) {own C : String} {T : u_T} {N ci index : Nat} {Ts : List Cond} (hts : ∀ w ∈ Ts, w.before args s = true) (hin : ∀ w ∈ u_ws C T N, w ∈ Ts) (ty : Nat → FieldType) (hty : ∀ k, k < N → parseFieldDescriptor (T k).2.2.1 = some (ty k)) (hown : s.vm.findClass own = some m.cls) (hcl : (Cond.classLink own index C).before args s = true) (hinst : (Cond.instantiable C N).before args s = true) (hini : (Cond.initialized C).before args s = true) (hK : ah_K G s) (hW : ah_W G s.heap h H locs) (hc : ah_cl[ci]? = some (C, T, N)) (hci : ci < 99) (hfs : ∀ j, j < N → defaultValue (ty j) = vp_V ((ah_tab.getD ci []).map ah_d) j) (hcells : cells + 1 ≤ R.cells) (hslots : slots + N ≤ R.slots) (hdg : decode cc pc = .ok (.new index, 3)) (kk : ∀ (q : Nat) (H1 : Heap), ah_T h q = 0 → ah_W G s.heap (ah_new h q (ci + 1) 0) H1 locs → W p l e R s m args below meth c H1 locs (cells + 1) (slots + N) Q (F0 m (pc + 3) ls (.ref q :: rest))) : W p l e R s m args below meth c H locs cells slots Q (F0 m pc ls rest) := by
  obtain ⟨hz, ⟨L, hL, hP, hD⟩, hS⟩ := hW
  refine va_new hexec hb hts hin ty hty hown hcl hinst hini hK hP hD hS (fun q hq => Nat.le_trans hz hq) hc hfs hcells hslots hdg (fun q H1 hP1 hD1 hS1 => ?_)
  obtain ⟨h0, hW1⟩ := ah_push (t := ci + 1) (n := 0) hz hL hP1 hD1 hS1 (by rw [ah_E_obj (h := ah_new h q (ci + 1) 0) (a := q) (ci := ci) (show ah_T (ah_new h q (ci + 1) 0) q = ci + 1 from va_up_self _ _ _) hci, ah_f_new])
  exact kk q H1 h0 hW1
theorem hb_newa (hexec : p.tables.exec = Jvm.exec) (hb : c.code = cc) {atype : ArrayType} (harr : (Cond.arrayClass (newarray.typeOf atype)).before args s = true) (hK : ah_K G s) (hW : ah_W G s.heap h H locs) {t : Nat} (t0 : Nat) (hy : ah_tys[t0]? = some (t, newarray.typeOf atype)) {n : Int32} {N : Nat} (hn : ¬ n < 0) (hN : n.toNatClampNeg = N) (hbytes : N * componentBytes (newarray.typeOf atype) ≤ 536870912) (ha : ∀ (q : Nat) (cA : ClassId), ∃ x : vp_A, ah_E G (ah_new h q t N) q = .inl (G.2.1 t, x) ∧ vp_cell cA x = arrV cA N (fun _ => defaultValue (newarray.typeOf atype))) (hcells : cells + 1 ≤ R.cells) (hslots : slots + N ≤ R.slots) (hdg : decode cc pc = .ok (.newarray atype, 2)) (kk : ∀ (q : Nat) (H1 : Heap), ah_T h q = 0 → ah_W G s.heap (ah_new h q t N) H1 locs → W p l e R s m args below meth c H1 locs (cells + 1) (slots + N) Q (F0 m (pc + 2) ls (.ref q :: rest))) : W p l e R s m args below meth c H locs cells slots Q (F0 m pc ls (.int n :: rest)) := by
  obtain ⟨hz, ⟨L, hL, hP, hD⟩, hS⟩ := hW
  refine va_newaK (g := F0 m pc ls (.int n :: rest)) (N := N) hexec hb harr rfl hdg rfl hn hN hbytes hcells hslots (h := H.size) rfl (fun H' cA e1 z1 o1 hAr hf => ?_)
  have hcA : cA = G.2.1 t := by
    have h9 := (hK.2 t0 (G.2.1 t, newarray.typeOf atype) (by rw [List.getElem?_map, hy]; rfl)).2
    have h8 : s.vm.findClass ("[" ++ (newarray.typeOf atype).toString) = some (G.2.1 t) := by cases atype <;> exact h9
    exact Option.some.inj (hf.symm.trans h8)
  subst hcA
  obtain ⟨x, hx1, hx2⟩ := ha H.size (G.2.1 t)
  have hk : ∀ (k : Nat) (x : Nat × va_E), (va_pl L (ah_E G h))[k]? = some x → H'[x.1]? = H[x.1]? := fun k x hx => o1 x.1 ((hP k x hx).lt)
  have hP1 : va_P G.1 ah_cl (va_pl L (ah_E G h) ++ [(H.size, .inl (G.2.1 t, x))]) H' := by
    refine (hP.kept hk).app (fun k y hy => ?_)
    have hz : k < 1 := (List.getElem?_eq_some_iff.mp hy).1
    rw [show k = 0 by omega] at hy
    cases hy
    show H'[H.size]? = some (vp_cell (G.2.1 t) x)
    rw [hx2]
    exact e1
  obtain ⟨h0, hW1⟩ := ah_push (t := t) (n := N) hz hL hP1 (hD.push hP rfl (Nat.le_trans hz hS.1)) ⟨Nat.le_trans hS.1 (by omega), fun x h1 h2 => (o1 x (Nat.lt_of_lt_of_le h1 hS.1)).trans (hS.2.1 x h1 h2), hS.2.2⟩ hx1
  exact kk H.size H' h0 hW1
theorem hb_preS (hK : ah_K G s) (hX : zx_X G s) (hW : ah_W G s.heap h H locs) {As : List Value} : PreS s H (va_Pc As (ah_B G h)) As :=
  ⟨fun a U g mk q => ⟨q.1, q.2.1, q.2.2.1, ah_K.moved (u := U) (U := U.calling g mk a) (Vm.Alike.refl U.vm) q.2.2.2.1, zx_X.same (s := U) (U := U.calling g mk a) rfl rfl q.2.2.2.2⟩, fun U hU hWm => ⟨rfl, by rw [hU]; exact Nat.le_trans hW.1 hW.2.2.1, by rw [hU]; exact hW.2.1, ah_K.moved hWm.alike hK, zx_X.warm hWm (fun a h1 h2 => by rw [hU]; exact hW.2.2.2.1 a h1 h2) hX⟩⟩
theorem hb_preV (hK : ah_K G s) (hX : zx_X G s) (hW : ah_W G s.heap h H locs) {b ci : Nat} {q : vw_C} (ht : ah_T h b = ci + 1) (hci : ci < 99) (hc : ah_cl[ci]? = some q) {As : List Value} : PreV s H q.1 b (va_Pc (.ref b :: As) (ah_B G h)) As := by
  obtain ⟨L, k0, hL, hP, hD, ha, hk0⟩ := hW.cell ht (by omega)
  rw [ah_E_obj ht hci] at hk0
  exact ⟨(hb_preS (As := .ref b :: As) hK hX hW).1, va_recv hK hP hc hk0, (hb_preS (As := .ref b :: As) hK hX hW).2⟩
theorem ah_W.joined {H1 : Heap} {locs1 : List Loc} {h' : ah_H} {t : State} (hW : ah_W G s.heap h H locs) (ht : t.heap = H1) (hB : ah_B G h' t) (hS : va_S (fun q => G.2.2 ≤ q) s.heap H1 locs1) : ah_W G s.heap h' H1 locs1 := ⟨hW.1, by rw [← ht]; exact hB.2.1, hS⟩
variable {st0 : List Value} {mc ms : Nat} {av : Array Value}
theorem hb_callv {K : ah_H → Prop} (hr : va_Run p l e R s m args below meth c H locs cells slots mc ms (F0 m pc ls st0) rest (va_Qv K (ah_B G) (fun q => G.2.2 ≤ q) av) (fun q => G.2.2 ≤ q)) (hW : ah_W G s.heap h H locs) (kk : ∀ (h' : ah_H) (H1 : Heap) (locs1 : List Loc), K h' → ah_W G s.heap h' H1 locs1 → W p l e R s m args below meth c H1 locs1 (cells + mc) (slots + ms) Q (F0 m (pc + 3) ls rest)) : W p l e R s m args below meth c H locs cells slots Q (F0 m pc ls st0) :=
  va_callv hr hW.2.2 (fun _ _ h => h) (fun _ h => h) (fun u t H1 locs1 ht _ hk hB _ _ hS => kk u H1 locs1 hk (hW.joined ht hB hS))
theorem hb_calli {K : Int32 → ah_H → Prop} (hr : va_Run p l e R s m args below meth c H locs cells slots mc ms (F0 m pc ls st0) rest (va_Qi K (ah_B G) (fun q => G.2.2 ≤ q) av) (fun q => G.2.2 ≤ q)) (hW : ah_W G s.heap h H locs) (kk : ∀ (r : Int32) (h' : ah_H) (H1 : Heap) (locs1 : List Loc), K r h' → ah_W G s.heap h' H1 locs1 → W p l e R s m args below meth c H1 locs1 (cells + mc) (slots + ms) Q (F0 m (pc + 3) ls (.int r :: rest))) : W p l e R s m args below meth c H locs cells slots Q (F0 m pc ls st0) :=
  va_calli hr hW.2.2 (fun _ _ h => h) (fun _ h => h) (fun r u t H1 locs1 ht _ hk hB _ _ hS => kk r u H1 locs1 hk (hW.joined ht hB hS))
theorem hb_calll {K : Int64 → ah_H → Prop} (hr : va_Run p l e R s m args below meth c H locs cells slots mc ms (F0 m pc ls st0) rest (va_Ql K (ah_B G) (fun q => G.2.2 ≤ q) av) (fun q => G.2.2 ≤ q)) (hW : ah_W G s.heap h H locs) (kk : ∀ (r : Int64) (h' : ah_H) (H1 : Heap) (locs1 : List Loc), K r h' → ah_W G s.heap h' H1 locs1 → W p l e R s m args below meth c H1 locs1 (cells + mc) (slots + ms) Q (F0 m (pc + 3) ls (.long r :: rest))) : W p l e R s m args below meth c H locs cells slots Q (F0 m pc ls st0) :=
  va_calll hr hW.2.2 (fun _ _ h => h) (fun _ h => h) (fun r u t H1 locs1 ht _ hk hB _ _ hS => kk r u H1 locs1 hk (hW.joined ht hB hS))
def ah_Qr (G : zG) (K : Nat → ah_H → Prop) : Array Value → State → Outcome → State → Prop := va_Qr (S := Nat × ah_H) (fun u => K u.1 u.2) (fun u a t => a = u.1 ∧ ah_B G u.2 t) (fun q => G.2.2 ≤ q)
theorem hb_callr {K : Nat → ah_H → Prop} (hr : va_Run p l e R s m args below meth c H locs cells slots mc ms (F0 m pc ls st0) rest (ah_Qr G K av) (fun q => G.2.2 ≤ q)) (hW : ah_W G s.heap h H locs) (kk : ∀ (r : Nat) (h' : ah_H) (H1 : Heap) (locs1 : List Loc), K r h' → ah_W G s.heap h' H1 locs1 → W p l e R s m args below meth c H1 locs1 (cells + mc) (slots + ms) Q (F0 m (pc + 3) ls (.ref r :: rest))) : W p l e R s m args below meth c H locs cells slots Q (F0 m pc ls st0) :=
  va_callr hr hW.2.2 (fun _ _ h => h) (fun _ h => h) (fun u r t H1 locs1 ht _ hk hB _ _ hS => by
    obtain ⟨rfl, hB⟩ := hB
    exact kk u.1 u.2 H1 locs1 hk (hW.joined ht hB hS))
theorem ah_W.ends (hK : ah_K G s) (hX : zx_X G s) (hW : ah_W G s.heap h H locs) {t : State} (ht : t.heap = H) (hWm : s.WarmedH t.vm) : ah_B G h t := ⟨by rw [ht]; exact Nat.le_trans hW.1 hW.2.2.1, by rw [ht]; exact hW.2.1, ah_K.moved hWm.alike hK, zx_X.warm hWm (fun a h1 h2 => by rw [ht]; exact hW.2.2.2.1 a h1 h2) hX⟩
theorem hb_vret {K : ah_H → Prop} (hexec : p.tables.exec = Jvm.exec) (hb : c.code = cc) (hr : meth.sig.returnType = none) (hlk : meth.locks = false) (hK : ah_K G s) (hX : zx_X G s) (hW : ah_W G s.heap h H locs) (hk : K h) (h1 : cells ≤ mc) (h2 : slots ≤ ms) (hdg : decode cc pc = .ok (.return_, 1)) : W p l e R s m args below meth c H locs cells slots (MQ below (va_Qv K (ah_B G) (fun q => G.2.2 ≤ q)) args s mc ms (fun q => G.2.2 ≤ q)) (F0 m pc ls []) := by
  refine W.widen h1 h2 ?_
  exact W.vret hexec hb hr (fun t ht hWm => ⟨⟨h, rfl, hk, hW.ends hK hX ht hWm⟩, hW.2.2.F ht⟩) hW.2.2.2.2 hdg hlk
theorem hb_iret {K : Int32 → ah_H → Prop} {v : Int32} (hexec : p.tables.exec = Jvm.exec) (hb : c.code = cc) (hr : meth.sig.returnType = some .int) (hlk : meth.locks = false) (hK : ah_K G s) (hX : zx_X G s) (hW : ah_W G s.heap h H locs) (hk : K v h) (h1 : cells ≤ mc) (h2 : slots ≤ ms) (hdg : decode cc pc = .ok (.ireturn, 1)) : W p l e R s m args below meth c H locs cells slots (MQ below (va_Qi K (ah_B G) (fun q => G.2.2 ≤ q)) args s mc ms (fun q => G.2.2 ≤ q)) (F0 m pc ls [.int v]) := by
  refine W.widen h1 h2 ?_
  exact W.iret hexec hb hr (fun t ht hWm => ⟨⟨v, h, rfl, hk, hW.ends hK hX ht hWm⟩, hW.2.2.F ht⟩) hW.2.2.2.2 hdg hlk
theorem hb_zret {K : Int32 → ah_H → Prop} {v : Int32} (hexec : p.tables.exec = Jvm.exec) (hb : c.code = cc) (hr : meth.sig.returnType = some .boolean) (hlk : meth.locks = false) (hv : v = 0 ∨ v = 1) (hK : ah_K G s) (hX : zx_X G s) (hW : ah_W G s.heap h H locs) (hk : K v h) (h1 : cells ≤ mc) (h2 : slots ≤ ms) (hdg : decode cc pc = .ok (.ireturn, 1)) : W p l e R s m args below meth c H locs cells slots (MQ below (va_Qi K (ah_B G) (fun q => G.2.2 ≤ q)) args s mc ms (fun q => G.2.2 ≤ q)) (F0 m pc ls [.int v]) := by
  refine W.widen h1 h2 ?_
  exact W.zret hexec hb hr (by rcases hv with rfl | rfl <;> rfl) (fun t ht hWm => ⟨⟨v, h, rfl, hk, hW.ends hK hX ht hWm⟩, hW.2.2.F ht⟩) hW.2.2.2.2 hdg hlk
theorem hb_lret {K : Int64 → ah_H → Prop} {v : Int64} (hexec : p.tables.exec = Jvm.exec) (hb : c.code = cc) (hr : meth.sig.returnType = some .long) (hlk : meth.locks = false) (hK : ah_K G s) (hX : zx_X G s) (hW : ah_W G s.heap h H locs) (hk : K v h) (h1 : cells ≤ mc) (h2 : slots ≤ ms) (hdg : decode cc pc = .ok (.lreturn, 1)) : W p l e R s m args below meth c H locs cells slots (MQ below (va_Ql K (ah_B G) (fun q => G.2.2 ≤ q)) args s mc ms (fun q => G.2.2 ≤ q)) (F0 m pc ls [.long v]) := by
  refine W.widen h1 h2 ?_
  exact W.lret hexec hb hr (fun t ht hWm => ⟨⟨v, h, rfl, hk, hW.ends hK hX ht hWm⟩, hW.2.2.F ht⟩) hW.2.2.2.2 hdg hlk
theorem hb_aret {K : Nat → ah_H → Prop} {v : Nat} {C : String} (hexec : p.tables.exec = Jvm.exec) (hb : c.code = cc) (hr : meth.sig.returnType = some (.object C)) (hlk : meth.locks = false) (hK : ah_K G s) (hX : zx_X G s) (hW : ah_W G s.heap h H locs) (hk : K v h) (h1 : cells ≤ mc) (h2 : slots ≤ ms) (hdg : decode cc pc = .ok (.areturn, 1)) : W p l e R s m args below meth c H locs cells slots (MQ below (ah_Qr G K) args s mc ms (fun q => G.2.2 ≤ q)) (F0 m pc ls [.ref v]) := by
  refine W.widen h1 h2 ?_
  exact W.aret hexec hb hr (Or.inl ⟨_, rfl⟩) (Or.inr ⟨_, rfl⟩) (fun t ht hWm => ⟨⟨(v, h), v, rfl, hk, rfl, hW.ends hK hX ht hWm⟩, hW.2.2.F ht⟩) hW.2.2.2.2 hdg hlk
end HB3
end
section
section HB4
variable {p : Program} {l : Launch} {e : Env} {R : Room} {s : State} {m : MethodId} {args : Array Value} {below : List Frame} {meth : Method} {c : Code} {H : Heap} {locs : List Loc} {cells slots : Nat} {Q : State → Prop}
variable {cc : ByteArray} {pc : Nat} {ls : Array Slot} {rest : List Value} {G : zG} {h : ah_H} {a : Nat}
theorem lg_0 (x y : Int64) : (lg_cmp x y = 0) ↔ x = y := by
  unfold lg_cmp
  by_cases h1 : x > y
  · simp only [h1, if_true]
    constructor
    · intro h; exact absurd h (by decide)
    · intro h; subst h; exact absurd h1 (by simp)
  · by_cases h2 : x = y
    · simp [h1, h2]
    · simp only [h1, h2, if_false]
      constructor
      · intro h; exact absurd h (by decide)
      · intro h; exact absurd h (by simp)
theorem lg_lt (x y : Int64) : (lg_cmp x y < 0) ↔ x < y := by
  have h := lg_cmp_ge x y
  constructor
  · intro h1
    exact Int64.not_le.mp (fun h2 => absurd (h.mpr h2) (Int32.not_le.mpr h1))
  · intro h1
    exact Int32.not_le.mp (fun h2 => absurd (h.mp h2) (Int64.not_le.mpr h1))
theorem lg_le (x y : Int64) : (lg_cmp x y ≤ 0) ↔ x ≤ y := by
  unfold lg_cmp
  by_cases h1 : x > y
  · simp only [h1, if_true]
    constructor
    · intro h; exact absurd h (by decide)
    · intro h; exact absurd h (Int64.not_le.mpr h1)
  · have h3 : x ≤ y := Int64.not_lt.mp h1
    by_cases h2 : x = y
    · simp [h1, h2]
    · simp only [h1, h2, if_false]
      exact ⟨fun _ => h3, fun _ => by decide⟩
theorem lg_gt (x y : Int64) : (0 < lg_cmp x y) ↔ y < x := by
  have h := lg_le x y
  constructor
  · intro h1
    exact Int64.not_le.mp (fun h2 => absurd (h.mpr h2) (Int32.not_le.mpr h1))
  · intro h1
    exact Int32.not_le.mp (fun h2 => absurd (h.mp h2) (Int64.not_le.mpr h1))
theorem hb_lcmp_eq (hexec : p.tables.exec = Jvm.exec) (hb : c.code = cc) {x y : Int64} {off : Int} {tgt : Nat} (hd0 : decode cc pc = .ok (.lcmp, 1)) (hdg : decode cc (pc + 1) = .ok (.ifCond .eq off, 3)) (ht : ((pc + 1 : Nat) : Int) + off = (tgt : Int)) (kt : x = y → W p l e R s m args below meth c H locs cells slots Q (F0 m tgt ls rest)) (kf : ¬ x = y → W p l e R s m args below meth c H locs cells slots Q (F0 m (pc + 4) ls rest)) : W p l e R s m args below meth c H locs cells slots Q (F0 m pc ls (.long y :: .long x :: rest)) :=
  W.lcmp hexec hb hd0 (lv_if_eq hexec hb hdg ht (fun h => kt ((lg_0 x y).mp h)) (fun h => kf (fun h2 => h ((lg_0 x y).mpr h2))))
theorem hb_lcmp_ne (hexec : p.tables.exec = Jvm.exec) (hb : c.code = cc) {x y : Int64} {off : Int} {tgt : Nat} (hd0 : decode cc pc = .ok (.lcmp, 1)) (hdg : decode cc (pc + 1) = .ok (.ifCond .ne off, 3)) (ht : ((pc + 1 : Nat) : Int) + off = (tgt : Int)) (kt : ¬ x = y → W p l e R s m args below meth c H locs cells slots Q (F0 m tgt ls rest)) (kf : x = y → W p l e R s m args below meth c H locs cells slots Q (F0 m (pc + 4) ls rest)) : W p l e R s m args below meth c H locs cells slots Q (F0 m pc ls (.long y :: .long x :: rest)) :=
  W.lcmp hexec hb hd0 (lv_if_ne hexec hb hdg ht (fun h => kt (fun h2 => h ((lg_0 x y).mpr h2))) (fun h => kf ((lg_0 x y).mp h)))
theorem hb_lcmp_lt (hexec : p.tables.exec = Jvm.exec) (hb : c.code = cc) {x y : Int64} {off : Int} {tgt : Nat} (hd0 : decode cc pc = .ok (.lcmp, 1)) (hdg : decode cc (pc + 1) = .ok (.ifCond .lt off, 3)) (ht : ((pc + 1 : Nat) : Int) + off = (tgt : Int)) (kt : x < y → W p l e R s m args below meth c H locs cells slots Q (F0 m tgt ls rest)) (kf : ¬ x < y → W p l e R s m args below meth c H locs cells slots Q (F0 m (pc + 4) ls rest)) : W p l e R s m args below meth c H locs cells slots Q (F0 m pc ls (.long y :: .long x :: rest)) :=
  W.lcmp hexec hb hd0 (lv_if_lt hexec hb hdg ht (fun h => kt ((lg_lt x y).mp h)) (fun h => kf (fun h2 => h ((lg_lt x y).mpr h2))))
theorem hb_lcmp_ge (hexec : p.tables.exec = Jvm.exec) (hb : c.code = cc) {x y : Int64} {off : Int} {tgt : Nat} (hd0 : decode cc pc = .ok (.lcmp, 1)) (hdg : decode cc (pc + 1) = .ok (.ifCond .ge off, 3)) (ht : ((pc + 1 : Nat) : Int) + off = (tgt : Int)) (kt : y ≤ x → W p l e R s m args below meth c H locs cells slots Q (F0 m tgt ls rest)) (kf : ¬ y ≤ x → W p l e R s m args below meth c H locs cells slots Q (F0 m (pc + 4) ls rest)) : W p l e R s m args below meth c H locs cells slots Q (F0 m pc ls (.long y :: .long x :: rest)) :=
  W.lcmp hexec hb hd0 (lv_if_ge hexec hb hdg ht (fun h => kt ((lg_cmp_ge x y).mp h)) (fun h => kf (fun h2 => h ((lg_cmp_ge x y).mpr h2))))
theorem hb_lcmp_gt (hexec : p.tables.exec = Jvm.exec) (hb : c.code = cc) {x y : Int64} {off : Int} {tgt : Nat} (hd0 : decode cc pc = .ok (.lcmp, 1)) (hdg : decode cc (pc + 1) = .ok (.ifCond .gt off, 3)) (ht : ((pc + 1 : Nat) : Int) + off = (tgt : Int)) (kt : y < x → W p l e R s m args below meth c H locs cells slots Q (F0 m tgt ls rest)) (kf : ¬ y < x → W p l e R s m args below meth c H locs cells slots Q (F0 m (pc + 4) ls rest)) : W p l e R s m args below meth c H locs cells slots Q (F0 m pc ls (.long y :: .long x :: rest)) :=
  W.lcmp hexec hb hd0 (lv_if_gt hexec hb hdg ht (fun h => kt ((lg_gt x y).mp h)) (fun h => kf (fun h2 => h ((lg_gt x y).mpr h2))))
theorem hb_lcmp_le (hexec : p.tables.exec = Jvm.exec) (hb : c.code = cc) {x y : Int64} {off : Int} {tgt : Nat} (hd0 : decode cc pc = .ok (.lcmp, 1)) (hdg : decode cc (pc + 1) = .ok (.ifCond .le off, 3)) (ht : ((pc + 1 : Nat) : Int) + off = (tgt : Int)) (kt : x ≤ y → W p l e R s m args below meth c H locs cells slots Q (F0 m tgt ls rest)) (kf : ¬ x ≤ y → W p l e R s m args below meth c H locs cells slots Q (F0 m (pc + 4) ls rest)) : W p l e R s m args below meth c H locs cells slots Q (F0 m pc ls (.long y :: .long x :: rest)) :=
  W.lcmp hexec hb hd0 (lv_if_le hexec hb hdg ht (fun h => kt ((lg_le x y).mp h)) (fun h => kf (fun h2 => h ((lg_le x y).mpr h2))))
theorem hb_copyl (hexec : p.tables.exec = Jvm.exec) (hb : c.code = cc) (hml : c.maxLocals = ls.size) {own : String} {index : Nat} (hown : s.vm.findClass own = some m.cls) (hlink : (Cond.methodLink own index arraycopyName).before args s = true) (hnat : (Cond.native arraycopyName).before args s = true) (hstat : (Cond.static arraycopyName).before args s = true) (hini : (Cond.initialized "java/lang/System").before args s = true) (hK : ah_K G s) (hW : ah_W G s.heap h H locs) {b : Nat} (hta : ah_T h a = 110) (htb : ah_T h b = 110) {sp dp n : Int32} (h1 : ¬ sp < 0) (h2 : ¬ dp < 0) (h3 : ¬ n < 0) (h4 : sp.toNatClampNeg + n.toNatClampNeg ≤ ah_N h b) (h5 : dp.toNatClampNeg + n.toNatClampNeg ≤ ah_N h a) (hframes : 1 ≤ R.frames) (hlocals : (rest.map fun v => v.category).sum + (nativeFrameWords "java/lang/System" "arraycopy" 5 + 11) ≤ R.locals) (hdg : decode cc pc = .ok (.invokestatic index, 3)) (kk : ∀ (H1 : Heap) (locs1 : List Loc) (hz : ah_H), hz = ah_cL h a (va_cpy (ah_bL h b) (ah_bL h a) sp.toNatClampNeg dp.toNatClampNeg n.toNatClampNeg) → ah_W G s.heap hz H1 locs1 → W p l e R s m args below meth c H1 locs1 cells slots Q (F0 m (pc + 3) ls rest)) : W p l e R s m args below meth c H locs cells slots Q (F0 m pc ls (.int n :: .int dp :: .ref a :: .int sp :: .ref b :: rest)) := by
  obtain ⟨L, k0, hL, hP, hD, ha, hk0⟩ := hW.cell hta (by omega)
  have hk1 := hk0
  rw [ah_E_long hta (by omega) (by omega)] at hk1
  obtain ⟨kb, hkb⟩ := va_pl_get (X := []) (f := ah_E G h) (hL b (by omega))
  rw [ah_E_long htb (by omega) (by omega)] at hkb
  refine va_copyl (ty := .long) hexec hb hml hown hlink hnat hstat hini hK hP hD hW.2.2 kb k0 2 2 hkb hk1 rfl rfl rfl h1 h2 h3 h4 h5 (fun _ _ => rfl) hframes hlocals hdg (fun H1 locs1 hP1 hD1 hS1 => kk H1 locs1 _ rfl ?_)
  refine ah_put hW.1 hL (fun b hb => hb) hD ha hk0 (ah_up ?_ (fun b hb => ah_E_cL G h a _ hb)) hP1 hD1 hS1
  rw [ah_E_long (t := 110) (by exact hta) (by omega) (by omega)]
  show Sum.inl (G.2.1 110, ah_N h a, Sum.inr (Sum.inl (va_up (ah_bL h) a _ a))) = _
  rw [va_up_self]
/-- what a byte is -/
def ah_by (x : Int32) : Prop := x.toInt8.toInt32 = x
theorem hb_copyb (hexec : p.tables.exec = Jvm.exec) (hb : c.code = cc) (hml : c.maxLocals = ls.size) {own : String} {index : Nat} (hown : s.vm.findClass own = some m.cls) (hlink : (Cond.methodLink own index arraycopyName).before args s = true) (hnat : (Cond.native arraycopyName).before args s = true) (hstat : (Cond.static arraycopyName).before args s = true) (hini : (Cond.initialized "java/lang/System").before args s = true) (hK : ah_K G s) (hW : ah_W G s.heap h H locs) {b : Nat} (hta : ah_T h a = 101) (htb : ah_T h b = 101) {sp dp n : Int32} (h1 : ¬ sp < 0) (h2 : ¬ dp < 0) (h3 : ¬ n < 0) (h4 : sp.toNatClampNeg + n.toNatClampNeg ≤ ah_N h b) (h5 : dp.toNatClampNeg + n.toNatClampNeg ≤ ah_N h a) (hby : ∀ i, i < n.toNatClampNeg → ah_by (ah_bI h b (sp.toNatClampNeg + i))) (hframes : 1 ≤ R.frames) (hlocals : (rest.map fun v => v.category).sum + (nativeFrameWords "java/lang/System" "arraycopy" 5 + 11) ≤ R.locals) (hdg : decode cc pc = .ok (.invokestatic index, 3)) (kk : ∀ (H1 : Heap) (locs1 : List Loc) (hz : ah_H), hz = ah_cI h a (va_cpy (ah_bI h b) (ah_bI h a) sp.toNatClampNeg dp.toNatClampNeg n.toNatClampNeg) → ah_W G s.heap hz H1 locs1 → W p l e R s m args below meth c H1 locs1 cells slots Q (F0 m (pc + 3) ls rest)) : W p l e R s m args below meth c H locs cells slots Q (F0 m pc ls (.int n :: .int dp :: .ref a :: .int sp :: .ref b :: rest)) := by
  obtain ⟨L, k0, hL, hP, hD, ha, hk0⟩ := hW.cell hta (by omega)
  have hk1 := hk0
  rw [ah_E_int hta (by omega) (by omega)] at hk1
  obtain ⟨kb, hkb⟩ := va_pl_get (X := []) (f := ah_E G h) (hL b (by omega))
  rw [ah_E_int htb (by omega) (by omega)] at hkb
  refine va_copyi (ty := .byte) hexec hb hml hown hlink hnat hstat hini hK hP hD hW.2.2 kb k0 1 1 hkb hk1 rfl rfl rfl h1 h2 h3 h4 h5 (fun i hi => by have := hby i hi; unfold ah_by at this; rw [← this]; exact pk_fb _) hframes hlocals hdg (fun H1 locs1 hP1 hD1 hS1 => kk H1 locs1 _ rfl ?_)
  refine ah_put hW.1 hL (fun b hb => hb) hD ha hk0 (ah_up ?_ (fun b hb => ah_E_cI G h a _ hb)) hP1 hD1 hS1
  rw [ah_E_int (t := 101) (by exact hta) (by omega) (by omega)]
  show Sum.inl (G.2.1 101, ah_N h a, Sum.inl (va_up (ah_bI h) a _ a)) = _
  rw [va_up_self]
end HB4
end
section
section HX1
/-- a thrown exception: its class, the abstract heap behind it -/
def ah_X (G : zG) (Ex : String → ah_H → Prop) : String → State → State → Prop := fun E st t => ∃ u : ah_H, Ex E u ∧ ah_Q G u t.heap ∧ va_F (fun q => G.2.2 ≤ q) st t
variable {p : Program} {l : Launch} {e : Env} {R : Room} {s : State} {m : MethodId} {args : Array Value} {below : List Frame} {meth : Method} {c : Code} {H : Heap} {locs : List Loc} {cells slots : Nat} {Q : State → Prop}
variable {cc : ByteArray} {pc : Nat} {ls : Array Slot} {rest : List Value} {G : zG} {h : ah_H} {a : Nat}
variable {st0 : List Value} {mc ms : Nat} {av : Array Value}
theorem hx_run {Ex : String → ah_H → Prop} {Qa : State → Outcome → State → Prop} (hr : vx_Run p l e R s m args below meth c H locs cells slots mc ms (F0 m pc ls st0) rest Qa (ah_X G Ex) (fun q => G.2.2 ≤ q)) (hW : ah_W G s.heap h H locs) (hQ : ∀ st o t, Qa st o t → va_F (fun q => G.2.2 ≤ q) st t)
    (kx : ∀ (E : String) (ce : Cell) (q9 : Addr) (h' : ah_H) (H1 : Heap) (locs1 : List Loc), Ex E h' → ah_W G s.heap h' H1 locs1 → H1[q9]? = some ce → ce.vm = .none → s.vm.findClass E = some ce.cls → vx_W p l e R s m args below meth c H1 locs1 (cells + mc) (slots + ms) Q (F0 m pc ls rest) q9)
    (kk : ∀ (v : Option Value) (st t : State) (H1 : Heap) (locs1 : List Loc), Qa st (.returned v) t → t.heap = H1 → va_S (fun q => G.2.2 ≤ q) s.heap H1 locs1 → W p l e R s m args below meth c H1 locs1 (cells + mc) (slots + ms) Q (F0 m (pc + 3) ls (v.toList ++ rest))) : W p l e R s m args below meth c H locs cells slots Q (F0 m pc ls st0) := by
  intro T hT X
  rcases hr T hT X with ⟨v, st₀, t, T', L, h0, X', hL, e1, e2, hq, st⟩ | ⟨q, st₀, t, T', L, E, ce, h0, X', hL, e1, e2, ⟨u, hE, hu, hF⟩, hce, hcv, hcl, st⟩
  · obtain ⟨k1, k2, k3⟩ := vx_keep h0 e1 hW.2.2 (fun _ _ h => h) (fun _ h => h) hL (hQ _ _ _ hq)
    obtain ⟨t2, a1, b1⟩ := kk v st₀ t T'.heap (locs ++ L) hq e1.symm k3 T' rfl X'
    exact ⟨t2, st t2 a1, b1⟩
  · obtain ⟨k1, k2, k3⟩ := vx_keep h0 e1 hW.2.2 (fun _ _ h => h) (fun _ h => h) hL hF
    obtain ⟨t2, a1, b1⟩ := kx E ce q u T'.heap (locs ++ L) hE ⟨hW.1, by rw [e1]; exact hu, k3⟩ (by rw [e1]; exact hce) hcv hcl T' rfl X'
    exact ⟨t2, st.trans a1, b1⟩
theorem hx_v {K : ah_H → Prop} {Ex : String → ah_H → Prop} (hr : vx_Run p l e R s m args below meth c H locs cells slots mc ms (F0 m pc ls st0) rest (va_Qv K (ah_B G) (fun q => G.2.2 ≤ q) av) (ah_X G Ex) (fun q => G.2.2 ≤ q)) (hW : ah_W G s.heap h H locs)
    (kx : ∀ (E : String) (ce : Cell) (q9 : Addr) (h' : ah_H) (H1 : Heap) (locs1 : List Loc), Ex E h' → ah_W G s.heap h' H1 locs1 → H1[q9]? = some ce → ce.vm = .none → s.vm.findClass E = some ce.cls → vx_W p l e R s m args below meth c H1 locs1 (cells + mc) (slots + ms) Q (F0 m pc ls rest) q9)
    (kk : ∀ (h' : ah_H) (H1 : Heap) (locs1 : List Loc), K h' → ah_W G s.heap h' H1 locs1 → W p l e R s m args below meth c H1 locs1 (cells + mc) (slots + ms) Q (F0 m (pc + 3) ls rest)) : W p l e R s m args below meth c H locs cells slots Q (F0 m pc ls st0) :=
  hx_run hr hW (fun _ _ _ h => h.2) kx (fun v st t H1 locs1 hq ht hS => by
    obtain ⟨⟨u, hv, hk, hB⟩, -⟩ := hq
    cases hv
    exact kk u H1 locs1 hk (hW.joined ht hB hS))
theorem hx_i {K : Int32 → ah_H → Prop} {Ex : String → ah_H → Prop} (hr : vx_Run p l e R s m args below meth c H locs cells slots mc ms (F0 m pc ls st0) rest (va_Qi K (ah_B G) (fun q => G.2.2 ≤ q) av) (ah_X G Ex) (fun q => G.2.2 ≤ q)) (hW : ah_W G s.heap h H locs)
    (kx : ∀ (E : String) (ce : Cell) (q9 : Addr) (h' : ah_H) (H1 : Heap) (locs1 : List Loc), Ex E h' → ah_W G s.heap h' H1 locs1 → H1[q9]? = some ce → ce.vm = .none → s.vm.findClass E = some ce.cls → vx_W p l e R s m args below meth c H1 locs1 (cells + mc) (slots + ms) Q (F0 m pc ls rest) q9)
    (kk : ∀ (r : Int32) (h' : ah_H) (H1 : Heap) (locs1 : List Loc), K r h' → ah_W G s.heap h' H1 locs1 → W p l e R s m args below meth c H1 locs1 (cells + mc) (slots + ms) Q (F0 m (pc + 3) ls (.int r :: rest))) : W p l e R s m args below meth c H locs cells slots Q (F0 m pc ls st0) :=
  hx_run hr hW (fun _ _ _ h => h.2) kx (fun v st t H1 locs1 hq ht hS => by
    obtain ⟨⟨r, u, hv, hk, hB⟩, -⟩ := hq
    cases hv
    exact kk r u H1 locs1 hk (hW.joined ht hB hS))
theorem hx_l {K : Int64 → ah_H → Prop} {Ex : String → ah_H → Prop} (hr : vx_Run p l e R s m args below meth c H locs cells slots mc ms (F0 m pc ls st0) rest (va_Ql K (ah_B G) (fun q => G.2.2 ≤ q) av) (ah_X G Ex) (fun q => G.2.2 ≤ q)) (hW : ah_W G s.heap h H locs)
    (kx : ∀ (E : String) (ce : Cell) (q9 : Addr) (h' : ah_H) (H1 : Heap) (locs1 : List Loc), Ex E h' → ah_W G s.heap h' H1 locs1 → H1[q9]? = some ce → ce.vm = .none → s.vm.findClass E = some ce.cls → vx_W p l e R s m args below meth c H1 locs1 (cells + mc) (slots + ms) Q (F0 m pc ls rest) q9)
    (kk : ∀ (r : Int64) (h' : ah_H) (H1 : Heap) (locs1 : List Loc), K r h' → ah_W G s.heap h' H1 locs1 → W p l e R s m args below meth c H1 locs1 (cells + mc) (slots + ms) Q (F0 m (pc + 3) ls (.long r :: rest))) : W p l e R s m args below meth c H locs cells slots Q (F0 m pc ls st0) :=
  hx_run hr hW (fun _ _ _ h => h.2) kx (fun v st t H1 locs1 hq ht hS => by
    obtain ⟨⟨r, u, hv, hk, hB⟩, -⟩ := hq
    cases hv
    exact kk r u H1 locs1 hk (hW.joined ht hB hS))
theorem hx_r {K : Nat → ah_H → Prop} {Ex : String → ah_H → Prop} (hr : vx_Run p l e R s m args below meth c H locs cells slots mc ms (F0 m pc ls st0) rest (ah_Qr G K av) (ah_X G Ex) (fun q => G.2.2 ≤ q)) (hW : ah_W G s.heap h H locs)
    (kx : ∀ (E : String) (ce : Cell) (q9 : Addr) (h' : ah_H) (H1 : Heap) (locs1 : List Loc), Ex E h' → ah_W G s.heap h' H1 locs1 → H1[q9]? = some ce → ce.vm = .none → s.vm.findClass E = some ce.cls → vx_W p l e R s m args below meth c H1 locs1 (cells + mc) (slots + ms) Q (F0 m pc ls rest) q9)
    (kk : ∀ (r : Nat) (h' : ah_H) (H1 : Heap) (locs1 : List Loc), K r h' → ah_W G s.heap h' H1 locs1 → W p l e R s m args below meth c H1 locs1 (cells + mc) (slots + ms) Q (F0 m (pc + 3) ls (.ref r :: rest))) : W p l e R s m args below meth c H locs cells slots Q (F0 m pc ls st0) :=
  hx_run hr hW (fun _ _ _ h => h.2) kx (fun v st t H1 locs1 hq ht hS => by
    obtain ⟨⟨u, r, hv, hk, rfl, hB⟩, -⟩ := hq
    cases hv
    exact kk u.1 u.2 H1 locs1 hk (hW.joined ht hB hS))
theorem hx_out {Ex : String → ah_H → Prop} {Qc : Array Value → State → Outcome → State → Prop} {E : String} {ce : Cell} {q : Addr} {mc ms : Nat} (hout : ∀ x ∈ c.exceptionTable.toList, covers x pc = false) (hlk : meth.locks = false) (hW : ah_W G s.heap h H locs) (hcell : H[q]? = some ce) (hv : ce.vm = .none) (hcl : s.vm.findClass E = some ce.cls) (hE : Ex E h) (hc : cells ≤ mc) (hs : slots ≤ ms) : vx_W p l e R s m args below meth c H locs cells slots (vx_MQ below Qc (ah_X G Ex) args s mc ms (fun q => G.2.2 ≤ q)) (F0 m pc ls rest) q :=
  vx_out hout hlk hcell hv hcl (fun t ht _ => ⟨h, hE, by rw [ht]; exact hW.2.1, hW.2.2.F ht⟩) hW.2.2.2.2 hc hs
theorem zx_use {w : Cond} {y : MethodName} {b : ByteArray} {n : Nat} {r : Option FieldType} (hts : ∀ w ∈ Cond.code y b n r :: zx_T, w.before args s = true) (hX : zx_X G s) (hw : w ∈ lw_tbl) (hk : (goodWord w || zx_kind w) = true) : w.before args s = true := by
  rcases Bool.or_eq_true_iff.mp hk with h1 | h1
  · exact hts w (List.mem_cons_of_mem _ (List.mem_filter.mpr ⟨hw, h1⟩))
  · have h2 := hX.1 w hw h1
    cases w with
    | methodLinkNest => exact va_Nw.use rfl h2
    | declares => exact va_Nw.use rfl h2
    | castable => exact va_Nw.use rfl h2
    | arrayOver ty =>
      cases ty with
      | object C => exact va_AO.use h2
      | _ => cases h1
    | _ => cases h1
theorem ah_Q.kept {t : State} (hQ : ah_Q G h H) (h2 : ∀ q : Nat, q < H.size → t.heap[q]? = H[q]?) : ah_Q G h t.heap := by
  obtain ⟨L, hL, hP, hD⟩ := hQ
  exact ⟨L, hL, hP.kept (fun k q hk => h2 q.1 ((hP k q hk).lt)), hD⟩
abbrev zx_rt : List String := ["java/lang/RuntimeException", "java/lang/Exception"]
theorem hx_throw {Ex : String → ah_H → Prop} {Qc : Array Value → State → Outcome → State → Prop} {y : MethodName} {bb : ByteArray} {nn : Nat} {rr : Option FieldType} (hexec : p.tables.exec = Jvm.exec) (hb : c.code = cc) (hl : l.stackTraces = false) {cls text : String} {ik is ic mc ms : Nat} (hown : s.vm.findClass "BigDesk" = some m.cls) (hts : ∀ w ∈ Cond.code y bb nn rr :: zx_T, w.before args s = true) (hX : zx_X G s) (hcls : Bundle.fit cls = true) (hnames : ∀ n ∈ zx_rt, Bundle.fit n = true) (hk : Cond.classLink "BigDesk" ik cls ∈ zx_T) (hini : Cond.initialized cls ∈ zx_T) (hstr : (is, text) ∈ zx_str) (hat : ∀ w ∈ vx_atS "BigDesk" ic cls zx_rt, w ∈ lw_tbl ∧ (goodWord w || zx_kind w) = true) (hgood : ∀ w ∈ Cond.classLink "BigDesk" ik cls :: Cond.initialized cls :: vx_atS "BigDesk" ic cls zx_rt, vx_ot w = true) (hW : ah_W G s.heap h H locs) (hsize : ls.size = c.maxLocals) (d0 : decode cc pc = .ok (.new ik, 3)) (d3 : decode cc (pc + 3) = .ok (.dup, 1)) (d4 : decode cc (pc + 4) = .ok (.ldc is, 2)) (d6 : decode cc (pc + 6) = .ok (.invokespecial ic, 3)) (d9 : decode cc (pc + 9) = .ok (.athrow, 1)) (hout : ∀ x ∈ c.exceptionTable.toList, False) (hRframes : 5 < R.frames) (hRlocals : (rest.map fun v => v.category).sum + 82 ≤ R.locals) (hRcells : cells + 1 ≤ R.cells) (hRslots : slots + 6 ≤ R.slots) (hlk : meth.locks = false) (hE : Ex cls h) (hc : cells + 1 ≤ mc) (hs : slots + 6 ≤ ms) : W p l e R s m args below meth c H locs cells slots (vx_MQ below Qc (ah_X G Ex) args s mc ms (fun q => G.2.2 ≤ q)) (F0 m pc ls rest) := by
  obtain ⟨sa, hsa⟩ := hX.2.1 _ hstr
  exact vx_throwS (names := zx_rt) hexec hb hl hown hcls hnames (hts _ (List.mem_cons_of_mem _ hk)) (hts _ (List.mem_cons_of_mem _ hini)) hsa (fun w hw => zx_use hts hX (hat w hw).1 (hat w hw).2) hgood hX.2.2.2.1 hX.2.2.2.2 hW.2.2 hsize d0 d3 d4 d6 d9 (fun x hx => (hout x hx).elim) hRframes hRlocals hRcells hRslots hlk (fun t _ h1 h2 => ⟨h, hE, hW.2.1.kept h2, Nat.le_trans hW.2.2.1 h1, fun q h3 h4 => (h2 q (Nat.lt_of_lt_of_le h3 hW.2.2.1)).trans (hW.2.2.2.1 q h3 h4)⟩) hW.2.2.2.2 hc hs
theorem zx_gT {y : MethodName} {b : ByteArray} {n : Nat} {r : Option FieldType} {w : Cond} (h : w ∈ zx_T) : w ∈ Cond.code y b n r :: zx_T ∧ ((w.onTables && w.keeps) = true ∨ ∃ ty, w = .arrayClass ty) := ⟨List.mem_cons_of_mem _ h, good_of_word (List.mem_filter.mp h).2⟩
theorem zx_gV {y : MethodName} {b : ByteArray} {n : Nat} {r : Option FieldType} {own C : String} {idx : Nat} {y' : MethodName} {b' : ByteArray} {n' : Nat} {r' : Option FieldType} (h1 : Cond.methodLink own idx y' ∈ zx_T) (h2 : Cond.instanceMethod y' ∈ zx_T) (h3 : Cond.selects C y' y' ∈ zx_T) (h4 : Cond.initialized C ∈ zx_T) (h5 : Cond.code y' b' n' r' ∈ zx_T) : GoodIn (Cond.code y b n r :: zx_T) (wsV own idx C y' (Cond.code y' b' n' r' :: zx_T)) := by
  intro w hw
  unfold wsV at hw
  simp only [List.cons_append, List.nil_append, List.mem_cons] at hw
  rcases hw with rfl | rfl | rfl | rfl | rfl | hw
  · exact zx_gT h1
  · exact zx_gT h2
  · exact zx_gT h3
  · exact zx_gT h4
  · exact zx_gT h5
  · exact zx_gT hw
theorem zx_gS {y : MethodName} {b : ByteArray} {n : Nat} {r : Option FieldType} {own : String} {idx : Nat} {y' : MethodName} {b' : ByteArray} {n' : Nat} {r' : Option FieldType} (h1 : Cond.methodLink own idx y' ∈ zx_T) (h2 : Cond.static y' ∈ zx_T) (h4 : Cond.initialized y'.cls ∈ zx_T) (h5 : Cond.code y' b' n' r' ∈ zx_T) : GoodIn (Cond.code y b n r :: zx_T) (va_wsS own idx y' (Cond.code y' b' n' r' :: zx_T)) := by
  intro w hw
  unfold va_wsS at hw
  simp only [List.cons_append, List.nil_append, List.mem_cons] at hw
  rcases hw with rfl | rfl | rfl | rfl | hw
  · exact zx_gT h1
  · exact zx_gT h2
  · exact zx_gT h4
  · exact zx_gT h5
  · exact zx_gT hw
theorem zx_gB {y : MethodName} {b : ByteArray} {n : Nat} {r : Option FieldType} {y' : MethodName} {b' : ByteArray} {n' : Nat} {r' : Option FieldType} (h5 : Cond.code y' b' n' r' ∈ zx_T) : GoodIn (Cond.code y b n r :: zx_T) (Cond.code y' b' n' r' :: zx_T) := by
  intro w hw
  rcases List.mem_cons.mp hw with rfl | hw
  · exact zx_gT h5
  · exact zx_gT hw
end HX1
end
section
section HC1
/-- what a method's walk stands on -/
def cx_C (p : Program) (l : Launch) (s : State) (m : MethodId) (args : Array Value) (meth : Method) (c : Code) (G : zG) (y : MethodName) (cc : ByteArray) (nL : Nat) (ret : Option FieldType) (own : String) : Prop :=
  p.tables.exec = Jvm.exec ∧ c.code = cc ∧ meth.sig.returnType = ret ∧ c.maxLocals = nL ∧ s.vm.findClass own = some m.cls ∧ (∀ w ∈ Cond.code y cc nL ret :: zx_T, w.before args s = true) ∧ meth.locks = false ∧ ah_K G s ∧ zx_X G s ∧ (∀ x ∈ c.exceptionTable.toList, False) ∧ (y.name = "<init>" → meth.name = "<init>") ∧ l.stackTraces = false
theorem cx_out {p : Program} {l : Launch} {y : MethodName} {S : Spec} {cc : ByteArray} {maxL : Nat} {ret : Option FieldType} {e : Env} {s s₁ : State} {m : MethodId} {args : Array Value} {below : List Frame} {meth : Method} {c : Code} (B : BodyLoose p l y S cc maxL ret e s m args below meth c s₁) (h : (Cond.code y cc maxL ret).before args s = true) : ∀ x ∈ c.exceptionTable.toList, False := by
  have h1 := B.noHandlers h
  intro x hx
  rw [Array.isEmpty_iff] at h1
  rw [h1] at hx
  cases hx
theorem zb_n {x : Int32} (h : x = 0 ∨ x = 1) : narrow .boolean (.int x) = .int x := by rcases h with rfl | rfl <;> rfl
theorem zb_f {x : Int32} (h : x = 0 ∨ x = 1) : fits .boolean (.int x) = true := by rcases h with rfl | rfl <;> rfl
theorem ah_f_R {h : ah_H} {a no b : Nat} (e : ah_R h no a = some b) : ah_f h a (2, no) = .ref b := by
  show va_rf (ah_R h no a) = _
  rw [e]
  rfl
theorem ah_nwJ {G : zG} (h : ah_H) (N : Nat) : ∀ (q : Nat) (cA : ClassId), ∃ x : vp_A, ah_E G (ah_new h q 110 N) q = .inl (G.2.1 110, x) ∧ vp_cell cA x = arrV cA N (fun _ => defaultValue (newarray.typeOf .long)) := fun q cA => by
  refine ⟨(N, .inr (.inl fun _ => 0)), ?_, rfl⟩
  rw [ah_E_long (t := 110) (show ah_T (ah_new h q 110 N) q = 110 from va_up_self _ _ _) (by decide) (by decide)]
  show Sum.inl (G.2.1 110, va_up (ah_N h) q N q, Sum.inr (Sum.inl (va_up (ah_bL h) q (fun _ => 0) q))) = _
  rw [va_up_self, va_up_self]
theorem ah_nwI {G : zG} (h : ah_H) (N : Nat) : ∀ (q : Nat) (cA : ClassId), ∃ x : vp_A, ah_E G (ah_new h q 100 N) q = .inl (G.2.1 100, x) ∧ vp_cell cA x = arrV cA N (fun _ => defaultValue (newarray.typeOf .int)) := fun q cA => by
  refine ⟨(N, .inl fun _ => 0), ?_, rfl⟩
  rw [ah_E_int (t := 100) (show ah_T (ah_new h q 100 N) q = 100 from va_up_self _ _ _) (by decide) (by decide)]
  show Sum.inl (G.2.1 100, va_up (ah_N h) q N q, Sum.inl (va_up (ah_bI h) q (fun _ => 0) q)) = _
  rw [va_up_self, va_up_self]
theorem ah_nwB {G : zG} (h : ah_H) (N : Nat) : ∀ (q : Nat) (cA : ClassId), ∃ x : vp_A, ah_E G (ah_new h q 101 N) q = .inl (G.2.1 101, x) ∧ vp_cell cA x = arrV cA N (fun _ => defaultValue (newarray.typeOf .byte)) := fun q cA => by
  refine ⟨(N, .inl fun _ => 0), ?_, rfl⟩
  rw [ah_E_int (t := 101) (show ah_T (ah_new h q 101 N) q = 101 from va_up_self _ _ _) (by decide) (by decide)]
  show Sum.inl (G.2.1 101, va_up (ah_N h) q N q, Sum.inl (va_up (ah_bI h) q (fun _ => 0) q)) = _
  rw [va_up_self, va_up_self]
theorem u_CD : ∀ w ∈ u_ws "BigDesk$CommonDivisor" T_CD 6, w ∈ zx_T := by decide +kernel
theorem f_CD : ∀ j, j < 6 → defaultValue (t_CD j) = vp_V ((ah_tab.getD 0 []).map ah_d) j := fun j hj => by rcases (show j = 0 ∨ j = 1 ∨ j = 2 ∨ j = 3 ∨ j = 4 ∨ j = 5 by omega) with rfl | rfl | rfl | rfl | rfl | rfl <;> rfl
theorem u_DV : ∀ w ∈ u_ws "BigDesk$Division" T_DV 3, w ∈ zx_T := by decide +kernel
theorem f_DV : ∀ j, j < 3 → defaultValue (t_DV j) = vp_V ((ah_tab.getD 1 []).map ah_d) j := fun j hj => by rcases (show j = 0 ∨ j = 1 ∨ j = 2 by omega) with rfl | rfl | rfl <;> rfl
theorem u_WH : ∀ w ∈ u_ws "BigDesk$Whole" T_WH 3, w ∈ zx_T := by decide +kernel
theorem f_WH : ∀ j, j < 3 → defaultValue (t_WH j) = vp_V ((ah_tab.getD 2 []).map ah_d) j := fun j hj => by rcases (show j = 0 ∨ j = 1 ∨ j = 2 by omega) with rfl | rfl | rfl <;> rfl
theorem u_BD : ∀ w ∈ u_ws "BigDesk" T_BD 9, w ∈ zx_T := by decide +kernel
theorem f_BD : ∀ j, j < 9 → defaultValue (t_BD j) = vp_V ((ah_tab.getD 3 []).map ah_d) j := fun j hj => by rcases (show j = 0 ∨ j = 1 ∨ j = 2 ∨ j = 3 ∨ j = 4 ∨ j = 5 ∨ j = 6 ∨ j = 7 ∨ j = 8 by omega) with rfl | rfl | rfl | rfl | rfl | rfl | rfl | rfl | rfl <;> rfl
theorem u_MO : ∀ w ∈ u_ws "BigDeskModel" T_MO 8, w ∈ zx_T := by decide +kernel
theorem f_MO : ∀ j, j < 8 → defaultValue (t_MO j) = vp_V ((ah_tab.getD 4 []).map ah_d) j := fun j hj => by rcases (show j = 0 ∨ j = 1 ∨ j = 2 ∨ j = 3 ∨ j = 4 ∨ j = 5 ∨ j = 6 ∨ j = 7 by omega) with rfl | rfl | rfl | rfl | rfl | rfl | rfl | rfl <;> rfl
theorem zx_rtf : ∀ n ∈ zx_rt, Bundle.fit n = true := by decide +kernel
theorem zx_aIllegalArgumentException : ∀ w ∈ vx_atS "BigDesk" 116 "java/lang/IllegalArgumentException" zx_rt, w ∈ lw_tbl ∧ (goodWord w || zx_kind w) = true := by decide +kernel
theorem zx_gIllegalArgumentException : ∀ w ∈ Cond.classLink "BigDesk" 112 "java/lang/IllegalArgumentException" :: Cond.initialized "java/lang/IllegalArgumentException" :: vx_atS "BigDesk" 116 "java/lang/IllegalArgumentException" zx_rt, vx_ot w = true := by decide +kernel
theorem zx_aIllegalStateException : ∀ w ∈ vx_atS "BigDesk" 88 "java/lang/IllegalStateException" zx_rt, w ∈ lw_tbl ∧ (goodWord w || zx_kind w) = true := by decide +kernel
theorem zx_gIllegalStateException : ∀ w ∈ Cond.classLink "BigDesk" 84 "java/lang/IllegalStateException" :: Cond.initialized "java/lang/IllegalStateException" :: vx_atS "BigDesk" 88 "java/lang/IllegalStateException" zx_rt, vx_ot w = true := by decide +kernel
theorem zx_aArithmeticException : ∀ w ∈ vx_atS "BigDesk" 124 "java/lang/ArithmeticException" zx_rt, w ∈ lw_tbl ∧ (goodWord w || zx_kind w) = true := by decide +kernel
theorem zx_gArithmeticException : ∀ w ∈ Cond.classLink "BigDesk" 120 "java/lang/ArithmeticException" :: Cond.initialized "java/lang/ArithmeticException" :: vx_atS "BigDesk" 124 "java/lang/ArithmeticException" zx_rt, vx_ot w = true := by decide +kernel
theorem zx_nest_BD_15 : (Cond.methodLinkNest "BigDesk" (15 : Nat) y_WH_init "BigDesk") ∈ lw_tbl := List.mem_of_getElem? (i := 61) rfl
theorem zx_nest_BD_25 : (Cond.methodLinkNest "BigDesk" (25 : Nat) y_DV_init "BigDesk") ∈ lw_tbl := List.mem_of_getElem? (i := 90) rfl
theorem zx_nest_DV_11 : (Cond.methodLinkNest "BigDesk$Division" (11 : Nat) y_WH_init "BigDesk") ∈ lw_tbl := List.mem_of_getElem? (i := 95) rfl
theorem zx_nest_BD_32 : (Cond.methodLinkNest "BigDesk" (32 : Nat) y_CD_init "BigDesk") ∈ lw_tbl := List.mem_of_getElem? (i := 111) rfl
theorem zx_nest_CD_11 : (Cond.methodLinkNest "BigDesk$CommonDivisor" (11 : Nat) y_WH_init "BigDesk") ∈ lw_tbl := List.mem_of_getElem? (i := 116) rfl
section HC2
variable {p : Program} {l : Launch} {e : Env} {R : Room} {s : State} {m : MethodId} {args : Array Value} {below : List Frame} {meth : Method} {c : Code} {H : Heap} {locs : List Loc} {cells slots : Nat} {Q : State → Prop}
variable {cc : ByteArray} {pc : Nat} {ls : Array Slot} {rest : List Value} {G : zG} {h : ah_H} {a : Nat}
theorem zx_aoW : Cond.arrayOver (.object "BigDesk$Whole") ∈ lw_tbl := by decide +kernel
theorem hb_newq (hexec : p.tables.exec = Jvm.exec) (hb : c.code = cc) {own : String} {index : Nat} (hown : s.vm.findClass own = some m.cls) (hclink : (Cond.classLink own index "BigDesk$Whole").before args s = true) (hK : ah_K G s) (hX : zx_X G s) (hW : ah_W G s.heap h H locs) {n : Int32} {N : Nat} (hn : ¬ n < 0) (hN : n.toNatClampNeg = N) (hbytes : N * 4 ≤ 536870912) (hcells : cells + 1 ≤ R.cells) (hslots : slots + N ≤ R.slots) (hdg : decode cc pc = .ok (.anewarray index, 3)) (kk : ∀ (q : Nat) (H1 : Heap), ah_T h q = 0 → ah_W G s.heap (ah_new h q 120 N) H1 locs → W p l e R s m args below meth c H1 locs (cells + 1) (slots + N) Q (F0 m (pc + 3) ls (.ref q :: rest))) : W p l e R s m args below meth c H locs cells slots Q (F0 m pc ls (.int n :: rest)) := by
  obtain ⟨hz, ⟨L, hL, hP, hD⟩, hS⟩ := hW
  refine va_newq hexec hb hown hclink (hX.1 _ zx_aoW rfl) hK hP hD hS (fun q hq => Nat.le_trans hz hq) hn hN hbytes hcells hslots hdg (fun q cA H1 hK1 hP1 hD1 hS1 => ?_)
  have h9 := (hK.2 3 (G.2.1 120, .object "BigDesk$Whole") rfl).2
  have h8 := (hK1.2 4 (cA, .object "BigDesk$Whole") rfl).2
  obtain ⟨_, _, -, -, -, f1⟩ := h9
  obtain ⟨_, _, -, -, -, f2⟩ := h8
  have hcA : cA = G.2.1 120 := Option.some.inj (f2.symm.trans f1)
  subst hcA
  obtain ⟨h0, hW1⟩ := ah_push (t := 120) (n := N) hz hL hP1 hD1 hS1 (by
    rw [ah_E_ref (t := 120) (show ah_T (ah_new h q 120 N) q = 120 from va_up_self _ _ _) (by decide)]
    show Sum.inl (G.2.1 120, va_up (ah_N h) q N q, Sum.inr (Sum.inr (Sum.inr (Sum.inr (va_up (ah_bR h) q (fun _ => none) q))))) = _
    rw [va_up_self, va_up_self])
  exact kk q H1 h0 hW1
end HC2
end HC1
end
section
theorem d_JL_bitCount_0 : decode b_JL_bitCount 0 = .ok (.lload_n 0, 1) := by decide +kernel
theorem d_JL_bitCount_1 : decode b_JL_bitCount 1 = .ok (.lload_n 0, 1) := by decide +kernel
theorem d_JL_bitCount_2 : decode b_JL_bitCount 2 = .ok (.iconst 1, 1) := by decide +kernel
theorem d_JL_bitCount_3 : decode b_JL_bitCount 3 = .ok (.lushr, 1) := by decide +kernel
theorem d_JL_bitCount_4 : decode b_JL_bitCount 4 = .ok (.ldc2_w 314, 3) := by decide +kernel
theorem d_JL_bitCount_7 : decode b_JL_bitCount 7 = .ok (.land, 1) := by decide +kernel
theorem d_JL_bitCount_8 : decode b_JL_bitCount 8 = .ok (.lsub, 1) := by decide +kernel
theorem d_JL_bitCount_9 : decode b_JL_bitCount 9 = .ok (.lstore_n 0, 1) := by decide +kernel
theorem d_JL_bitCount_10 : decode b_JL_bitCount 10 = .ok (.lload_n 0, 1) := by decide +kernel
theorem d_JL_bitCount_11 : decode b_JL_bitCount 11 = .ok (.ldc2_w 316, 3) := by decide +kernel
theorem d_JL_bitCount_14 : decode b_JL_bitCount 14 = .ok (.land, 1) := by decide +kernel
theorem d_JL_bitCount_15 : decode b_JL_bitCount 15 = .ok (.lload_n 0, 1) := by decide +kernel
theorem d_JL_bitCount_16 : decode b_JL_bitCount 16 = .ok (.iconst 2, 1) := by decide +kernel
theorem d_JL_bitCount_17 : decode b_JL_bitCount 17 = .ok (.lushr, 1) := by decide +kernel
theorem d_JL_bitCount_18 : decode b_JL_bitCount 18 = .ok (.ldc2_w 316, 3) := by decide +kernel
theorem d_JL_bitCount_21 : decode b_JL_bitCount 21 = .ok (.land, 1) := by decide +kernel
theorem d_JL_bitCount_22 : decode b_JL_bitCount 22 = .ok (.ladd, 1) := by decide +kernel
theorem d_JL_bitCount_23 : decode b_JL_bitCount 23 = .ok (.lstore_n 0, 1) := by decide +kernel
theorem d_JL_bitCount_24 : decode b_JL_bitCount 24 = .ok (.lload_n 0, 1) := by decide +kernel
theorem d_JL_bitCount_25 : decode b_JL_bitCount 25 = .ok (.lload_n 0, 1) := by decide +kernel
theorem d_JL_bitCount_26 : decode b_JL_bitCount 26 = .ok (.iconst 4, 1) := by decide +kernel
theorem d_JL_bitCount_27 : decode b_JL_bitCount 27 = .ok (.lushr, 1) := by decide +kernel
theorem d_JL_bitCount_28 : decode b_JL_bitCount 28 = .ok (.ladd, 1) := by decide +kernel
theorem d_JL_bitCount_29 : decode b_JL_bitCount 29 = .ok (.ldc2_w 318, 3) := by decide +kernel
theorem d_JL_bitCount_32 : decode b_JL_bitCount 32 = .ok (.land, 1) := by decide +kernel
theorem d_JL_bitCount_33 : decode b_JL_bitCount 33 = .ok (.lstore_n 0, 1) := by decide +kernel
theorem d_JL_bitCount_34 : decode b_JL_bitCount 34 = .ok (.lload_n 0, 1) := by decide +kernel
theorem d_JL_bitCount_35 : decode b_JL_bitCount 35 = .ok (.lload_n 0, 1) := by decide +kernel
theorem d_JL_bitCount_36 : decode b_JL_bitCount 36 = .ok (.bipush 8, 2) := by decide +kernel
theorem d_JL_bitCount_38 : decode b_JL_bitCount 38 = .ok (.lushr, 1) := by decide +kernel
theorem d_JL_bitCount_39 : decode b_JL_bitCount 39 = .ok (.ladd, 1) := by decide +kernel
theorem d_JL_bitCount_40 : decode b_JL_bitCount 40 = .ok (.lstore_n 0, 1) := by decide +kernel
theorem d_JL_bitCount_41 : decode b_JL_bitCount 41 = .ok (.lload_n 0, 1) := by decide +kernel
theorem d_JL_bitCount_42 : decode b_JL_bitCount 42 = .ok (.lload_n 0, 1) := by decide +kernel
theorem d_JL_bitCount_43 : decode b_JL_bitCount 43 = .ok (.bipush 16, 2) := by decide +kernel
theorem d_JL_bitCount_45 : decode b_JL_bitCount 45 = .ok (.lushr, 1) := by decide +kernel
theorem d_JL_bitCount_46 : decode b_JL_bitCount 46 = .ok (.ladd, 1) := by decide +kernel
theorem d_JL_bitCount_47 : decode b_JL_bitCount 47 = .ok (.lstore_n 0, 1) := by decide +kernel
theorem d_JL_bitCount_48 : decode b_JL_bitCount 48 = .ok (.lload_n 0, 1) := by decide +kernel
theorem d_JL_bitCount_49 : decode b_JL_bitCount 49 = .ok (.lload_n 0, 1) := by decide +kernel
theorem d_JL_bitCount_50 : decode b_JL_bitCount 50 = .ok (.bipush 32, 2) := by decide +kernel
theorem d_JL_bitCount_52 : decode b_JL_bitCount 52 = .ok (.lushr, 1) := by decide +kernel
theorem d_JL_bitCount_53 : decode b_JL_bitCount 53 = .ok (.ladd, 1) := by decide +kernel
theorem d_JL_bitCount_54 : decode b_JL_bitCount 54 = .ok (.lstore_n 0, 1) := by decide +kernel
theorem d_JL_bitCount_55 : decode b_JL_bitCount 55 = .ok (.lload_n 0, 1) := by decide +kernel
theorem d_JL_bitCount_56 : decode b_JL_bitCount 56 = .ok (.l2i, 1) := by decide +kernel
theorem d_JL_bitCount_57 : decode b_JL_bitCount 57 = .ok (.bipush 127, 2) := by decide +kernel
theorem d_JL_bitCount_59 : decode b_JL_bitCount 59 = .ok (.iand, 1) := by decide +kernel
theorem d_JL_bitCount_60 : decode b_JL_bitCount 60 = .ok (.ireturn, 1) := by decide +kernel
abbrev rm_JL_bitCount : Room := { frames := 0, cells := 0, slots := 0, locals := 0 }
def w_JL_bitCount (a1 : Int64) (h0 : ah_H) (K : Int32 → ah_H → Prop) : Prop :=
  ∀ v2 : Int64, v2 = a1 - (((a1.toUInt64 >>> ((1 : Int32).toInt64.toUInt64 &&& Int64.toUInt64 63)).toInt64) &&& (6148914691236517205 : Int64)) → ∀ v3 : Int64, v3 = (v2 &&& (3689348814741910323 : Int64)) + (((v2.toUInt64 >>> ((2 : Int32).toInt64.toUInt64 &&& Int64.toUInt64 63)).toInt64) &&& (3689348814741910323 : Int64)) → ∀ v4 : Int64, v4 = (v3 + ((v3.toUInt64 >>> ((4 : Int32).toInt64.toUInt64 &&& Int64.toUInt64 63)).toInt64)) &&& (1085102592571150095 : Int64) → ∀ v5 : Int64, v5 = v4 + ((v4.toUInt64 >>> ((8 : Int32).toInt64.toUInt64 &&& Int64.toUInt64 63)).toInt64) → ∀ v6 : Int64, v6 = v5 + ((v5.toUInt64 >>> ((16 : Int32).toInt64.toUInt64 &&& Int64.toUInt64 63)).toInt64) → ∀ v7 : Int64, v7 = v6 + ((v6.toUInt64 >>> ((32 : Int32).toInt64.toUInt64 &&& Int64.toUInt64 63)).toInt64) → K (v7.toInt32 &&& (127 : Int32)) h0
set_option maxHeartbeats 4000000 in
set_option maxRecDepth 100000 in
theorem m_JL_bitCount {l : Launch} (G : zG) (a1 : Int64) (h0 : ah_H) {K : Int32 → ah_H → Prop} (hst : l.stackTraces = false) (w : w_JL_bitCount a1 h0 K) : Met l y_JL_bitCount (Cond.code y_JL_bitCount b_JL_bitCount 2 (some .int) :: zx_T) rm_JL_bitCount (va_Pc [.long a1] (ah_B G h0)) (va_Qi (fun r9 h9 => K r9 h9 ∧ ah_m h0 h9) (ah_B G) (fun q => G.2.2 ≤ q)) 0 0 (fun q => G.2.2 ≤ q) := by
  refine Met.ofW (cc := b_JL_bitCount) (maxL := 2) (ret := (some .int)) (by decide) rfl ?_
  intro p e s m args below meth c s₁ B hml hv
  have hout : ∀ x ∈ c.exceptionTable.toList, False := cx_out B (atoms_spec B.pre _ List.mem_cons_self)
  obtain ⟨rfl, hB⟩ := hv
  have C : cx_C p l s m _ meth c G y_JL_bitCount b_JL_bitCount 2 (some .int) "java/lang/Long" := ⟨B.exec, B.bytes, B.returns, hml, findClass_of_methodNamed B.named, atoms_spec B.pre, B.notSynchronized, hB.2.2.1, hB.2.2.2, hout, fun z9 => (name_of_methodNamed B.named B.method).1.trans z9, hst⟩
  obtain ⟨hx, hb, hr, hml, hown, hts, hlk, hK, hX, hout, hin, hst⟩ := id C
  have hw : ∀ {w9 : Cond}, w9 ∈ zx_T → w9.before _ s = true := fun h9 => hts _ (List.mem_cons_of_mem _ h9)
  have hW : ah_W G s.heap h0 s.heap [] := ⟨hB.1, hB.2.1, va_S.rf⟩
  have hm : ah_m h0 h0 := ah_m.rf
  have hcl : 0 + 0 ≤ 0 := by decide
  have hsl : 0 + 0 ≤ 0 := by decide
  have hl := lv_entry ([.long a1]) (n := 2) (Nat.le_of_ble_eq_true rfl)
  rw [lg_entry_eq]
  generalize (lg_sl ([.long a1]) ++ List.replicate (2 - (lg_sl ([.long a1])).length) Slot.unset).toArray = ls at hl ⊢
  have hl : lv_has ls 2 [(0, .long a1)] := hl
  unfold w_JL_bitCount at w
  refine lv_lload_n hx hb d_JL_bitCount_0 rfl (lv_at hl 0 rfl) ?_
  refine lv_lload_n hx hb d_JL_bitCount_1 rfl (lv_at hl 0 rfl) ?_
  refine lv_iconst (v := 1) hx hb d_JL_bitCount_2 (by decide) ?_
  refine lv_lushr hx hb d_JL_bitCount_3 rfl ?_
  refine lv_ldc2 (v := 6148914691236517205) hx hb hown (hw wd_368) d_JL_bitCount_4 ?_
  refine lv_land hx hb d_JL_bitCount_7 ?_
  refine lv_lsub hx hb d_JL_bitCount_8 ?_
  refine lv_topl (fun v2 ev2 => ?_)
  have w := w v2 ev2
  refine lv_lstore_n (lv' := [(0, .long v2)]) hx hb d_JL_bitCount_9 rfl hl (by decide) rfl (fun ls hl => ?_)
  refine lv_lload_n hx hb d_JL_bitCount_10 rfl (lv_at hl 0 rfl) ?_
  refine lv_ldc2 (v := 3689348814741910323) hx hb hown (hw wd_369) d_JL_bitCount_11 ?_
  refine lv_land hx hb d_JL_bitCount_14 ?_
  refine lv_lload_n hx hb d_JL_bitCount_15 rfl (lv_at hl 0 rfl) ?_
  refine lv_iconst (v := 2) hx hb d_JL_bitCount_16 (by decide) ?_
  refine lv_lushr hx hb d_JL_bitCount_17 rfl ?_
  refine lv_ldc2 (v := 3689348814741910323) hx hb hown (hw wd_369) d_JL_bitCount_18 ?_
  refine lv_land hx hb d_JL_bitCount_21 ?_
  refine lv_ladd hx hb d_JL_bitCount_22 ?_
  refine lv_topl (fun v3 ev3 => ?_)
  have w := w v3 ev3
  refine lv_lstore_n (lv' := [(0, .long v3)]) hx hb d_JL_bitCount_23 rfl hl (by decide) rfl (fun ls hl => ?_)
  refine lv_lload_n hx hb d_JL_bitCount_24 rfl (lv_at hl 0 rfl) ?_
  refine lv_lload_n hx hb d_JL_bitCount_25 rfl (lv_at hl 0 rfl) ?_
  refine lv_iconst (v := 4) hx hb d_JL_bitCount_26 (by decide) ?_
  refine lv_lushr hx hb d_JL_bitCount_27 rfl ?_
  refine lv_ladd hx hb d_JL_bitCount_28 ?_
  refine lv_ldc2 (v := 1085102592571150095) hx hb hown (hw wd_370) d_JL_bitCount_29 ?_
  refine lv_land hx hb d_JL_bitCount_32 ?_
  refine lv_topl (fun v4 ev4 => ?_)
  have w := w v4 ev4
  refine lv_lstore_n (lv' := [(0, .long v4)]) hx hb d_JL_bitCount_33 rfl hl (by decide) rfl (fun ls hl => ?_)
  refine lv_lload_n hx hb d_JL_bitCount_34 rfl (lv_at hl 0 rfl) ?_
  refine lv_lload_n hx hb d_JL_bitCount_35 rfl (lv_at hl 0 rfl) ?_
  refine lv_bipush (v := 8) hx hb d_JL_bitCount_36 (by decide) ?_
  refine lv_lushr hx hb d_JL_bitCount_38 rfl ?_
  refine lv_ladd hx hb d_JL_bitCount_39 ?_
  refine lv_topl (fun v5 ev5 => ?_)
  have w := w v5 ev5
  refine lv_lstore_n (lv' := [(0, .long v5)]) hx hb d_JL_bitCount_40 rfl hl (by decide) rfl (fun ls hl => ?_)
  refine lv_lload_n hx hb d_JL_bitCount_41 rfl (lv_at hl 0 rfl) ?_
  refine lv_lload_n hx hb d_JL_bitCount_42 rfl (lv_at hl 0 rfl) ?_
  refine lv_bipush (v := 16) hx hb d_JL_bitCount_43 (by decide) ?_
  refine lv_lushr hx hb d_JL_bitCount_45 rfl ?_
  refine lv_ladd hx hb d_JL_bitCount_46 ?_
  refine lv_topl (fun v6 ev6 => ?_)
  have w := w v6 ev6
  refine lv_lstore_n (lv' := [(0, .long v6)]) hx hb d_JL_bitCount_47 rfl hl (by decide) rfl (fun ls hl => ?_)
  refine lv_lload_n hx hb d_JL_bitCount_48 rfl (lv_at hl 0 rfl) ?_
  refine lv_lload_n hx hb d_JL_bitCount_49 rfl (lv_at hl 0 rfl) ?_
  refine lv_bipush (v := 32) hx hb d_JL_bitCount_50 (by decide) ?_
  refine lv_lushr hx hb d_JL_bitCount_52 rfl ?_
  refine lv_ladd hx hb d_JL_bitCount_53 ?_
  refine lv_topl (fun v7 ev7 => ?_)
  have w := w v7 ev7
  refine lv_lstore_n (lv' := [(0, .long v7)]) hx hb d_JL_bitCount_54 rfl hl (by decide) rfl (fun ls hl => ?_)
  refine lv_lload_n hx hb d_JL_bitCount_55 rfl (lv_at hl 0 rfl) ?_
  refine lv_l2i hx hb d_JL_bitCount_56 rfl ?_
  refine lv_bipush (v := 127) hx hb d_JL_bitCount_57 (by decide) ?_
  refine lv_iand hx hb d_JL_bitCount_59 ?_
  exact hb_iret (K := fun r9 h9 => K r9 h9 ∧ ah_m h0 h9) hx hb hr hlk hK hX hW ⟨w, hm⟩ (by omega) (by omega) d_JL_bitCount_60
end
section
theorem d_WH_init_0 : decode b_WH_init 0 = .ok (.aload_n 0, 1) := by decide +kernel
theorem d_WH_init_1 : decode b_WH_init 1 = .ok (.invokespecial 3, 3) := by decide +kernel
theorem d_WH_init_4 : decode b_WH_init 4 = .ok (.aload_n 0, 1) := by decide +kernel
theorem d_WH_init_5 : decode b_WH_init 5 = .ok (.sipush 258, 3) := by decide +kernel
theorem d_WH_init_8 : decode b_WH_init 8 = .ok (.newarray .long, 2) := by decide +kernel
theorem d_WH_init_10 : decode b_WH_init 10 = .ok (.putfield 9, 3) := by decide +kernel
theorem d_WH_init_13 : decode b_WH_init 13 = .ok (.aload_n 0, 1) := by decide +kernel
theorem d_WH_init_14 : decode b_WH_init 14 = .ok (.iconst 0, 1) := by decide +kernel
theorem d_WH_init_15 : decode b_WH_init 15 = .ok (.putfield 15, 3) := by decide +kernel
theorem d_WH_init_18 : decode b_WH_init 18 = .ok (.aload_n 0, 1) := by decide +kernel
theorem d_WH_init_19 : decode b_WH_init 19 = .ok (.iconst 0, 1) := by decide +kernel
theorem d_WH_init_20 : decode b_WH_init 20 = .ok (.putfield 19, 3) := by decide +kernel
theorem d_WH_init_23 : decode b_WH_init 23 = .ok (.return_, 1) := by decide +kernel
theorem d_WH_settle_0 : decode b_WH_settle 0 = .ok (.iload_n 1, 1) := by decide +kernel
theorem d_WH_settle_1 : decode b_WH_settle 1 = .ok (.istore_n 2, 1) := by decide +kernel
theorem d_WH_settle_2 : decode b_WH_settle 2 = .ok (.iload_n 2, 1) := by decide +kernel
theorem d_WH_settle_3 : decode b_WH_settle 3 = .ok (.aload_n 0, 1) := by decide +kernel
theorem d_WH_settle_4 : decode b_WH_settle 4 = .ok (.getfield 15, 3) := by decide +kernel
theorem d_WH_settle_7 : decode b_WH_settle 7 = .ok (.if_icmp .ge 16, 3) := by decide +kernel
theorem d_WH_settle_10 : decode b_WH_settle 10 = .ok (.aload_n 0, 1) := by decide +kernel
theorem d_WH_settle_11 : decode b_WH_settle 11 = .ok (.getfield 9, 3) := by decide +kernel
theorem d_WH_settle_14 : decode b_WH_settle 14 = .ok (.iload_n 2, 1) := by decide +kernel
theorem d_WH_settle_15 : decode b_WH_settle 15 = .ok (.lconst 0, 1) := by decide +kernel
theorem d_WH_settle_16 : decode b_WH_settle 16 = .ok (.lastore, 1) := by decide +kernel
theorem d_WH_settle_17 : decode b_WH_settle 17 = .ok (.iinc 2 1, 3) := by decide +kernel
theorem d_WH_settle_20 : decode b_WH_settle 20 = .ok (.goto (-18), 3) := by decide +kernel
theorem d_WH_settle_23 : decode b_WH_settle 23 = .ok (.aload_n 0, 1) := by decide +kernel
theorem d_WH_settle_24 : decode b_WH_settle 24 = .ok (.iload_n 1, 1) := by decide +kernel
theorem d_WH_settle_25 : decode b_WH_settle 25 = .ok (.putfield 15, 3) := by decide +kernel
theorem d_WH_settle_28 : decode b_WH_settle 28 = .ok (.aload_n 0, 1) := by decide +kernel
theorem d_WH_settle_29 : decode b_WH_settle 29 = .ok (.getfield 15, 3) := by decide +kernel
theorem d_WH_settle_32 : decode b_WH_settle 32 = .ok (.ifCond .le 32, 3) := by decide +kernel
theorem d_WH_settle_35 : decode b_WH_settle 35 = .ok (.aload_n 0, 1) := by decide +kernel
theorem d_WH_settle_36 : decode b_WH_settle 36 = .ok (.getfield 9, 3) := by decide +kernel
theorem d_WH_settle_39 : decode b_WH_settle 39 = .ok (.aload_n 0, 1) := by decide +kernel
theorem d_WH_settle_40 : decode b_WH_settle 40 = .ok (.getfield 15, 3) := by decide +kernel
theorem d_WH_settle_43 : decode b_WH_settle 43 = .ok (.iconst 1, 1) := by decide +kernel
theorem d_WH_settle_44 : decode b_WH_settle 44 = .ok (.isub, 1) := by decide +kernel
theorem d_WH_settle_45 : decode b_WH_settle 45 = .ok (.laload, 1) := by decide +kernel
theorem d_WH_settle_46 : decode b_WH_settle 46 = .ok (.lconst 0, 1) := by decide +kernel
theorem d_WH_settle_47 : decode b_WH_settle 47 = .ok (.lcmp, 1) := by decide +kernel
theorem d_WH_settle_48 : decode b_WH_settle 48 = .ok (.ifCond .ne 16, 3) := by decide +kernel
theorem d_WH_settle_51 : decode b_WH_settle 51 = .ok (.aload_n 0, 1) := by decide +kernel
theorem d_WH_settle_52 : decode b_WH_settle 52 = .ok (.dup, 1) := by decide +kernel
theorem d_WH_settle_53 : decode b_WH_settle 53 = .ok (.getfield 15, 3) := by decide +kernel
theorem d_WH_settle_56 : decode b_WH_settle 56 = .ok (.iconst 1, 1) := by decide +kernel
theorem d_WH_settle_57 : decode b_WH_settle 57 = .ok (.isub, 1) := by decide +kernel
theorem d_WH_settle_58 : decode b_WH_settle 58 = .ok (.putfield 15, 3) := by decide +kernel
theorem d_WH_settle_61 : decode b_WH_settle 61 = .ok (.goto (-33), 3) := by decide +kernel
theorem d_WH_settle_64 : decode b_WH_settle 64 = .ok (.return_, 1) := by decide +kernel
theorem d_WH_markSign_0 : decode b_WH_markSign 0 = .ok (.aload_n 0, 1) := by decide +kernel
theorem d_WH_markSign_1 : decode b_WH_markSign 1 = .ok (.iload_n 1, 1) := by decide +kernel
theorem d_WH_markSign_2 : decode b_WH_markSign 2 = .ok (.ifCond .eq 14, 3) := by decide +kernel
theorem d_WH_markSign_5 : decode b_WH_markSign 5 = .ok (.aload_n 0, 1) := by decide +kernel
theorem d_WH_markSign_6 : decode b_WH_markSign 6 = .ok (.getfield 15, 3) := by decide +kernel
theorem d_WH_markSign_9 : decode b_WH_markSign 9 = .ok (.ifCond .le 7, 3) := by decide +kernel
theorem d_WH_markSign_12 : decode b_WH_markSign 12 = .ok (.iconst 1, 1) := by decide +kernel
theorem d_WH_markSign_13 : decode b_WH_markSign 13 = .ok (.goto 4, 3) := by decide +kernel
theorem d_WH_markSign_16 : decode b_WH_markSign 16 = .ok (.iconst 0, 1) := by decide +kernel
theorem d_WH_markSign_17 : decode b_WH_markSign 17 = .ok (.putfield 19, 3) := by decide +kernel
theorem d_WH_markSign_20 : decode b_WH_markSign 20 = .ok (.return_, 1) := by decide +kernel
theorem d_WH_becomeLong_0 : decode b_WH_becomeLong 0 = .ok (.lload_n 1, 1) := by decide +kernel
theorem d_WH_becomeLong_1 : decode b_WH_becomeLong 1 = .ok (.lconst 0, 1) := by decide +kernel
theorem d_WH_becomeLong_2 : decode b_WH_becomeLong 2 = .ok (.lcmp, 1) := by decide +kernel
theorem d_WH_becomeLong_3 : decode b_WH_becomeLong 3 = .ok (.ifCond .ge 8, 3) := by decide +kernel
theorem d_WH_becomeLong_6 : decode b_WH_becomeLong 6 = .ok (.lload_n 1, 1) := by decide +kernel
theorem d_WH_becomeLong_7 : decode b_WH_becomeLong 7 = .ok (.lneg, 1) := by decide +kernel
theorem d_WH_becomeLong_8 : decode b_WH_becomeLong 8 = .ok (.goto 4, 3) := by decide +kernel
theorem d_WH_becomeLong_11 : decode b_WH_becomeLong 11 = .ok (.lload_n 1, 1) := by decide +kernel
theorem d_WH_becomeLong_12 : decode b_WH_becomeLong 12 = .ok (.lstore_n 3, 1) := by decide +kernel
theorem d_WH_becomeLong_13 : decode b_WH_becomeLong 13 = .ok (.aload_n 0, 1) := by decide +kernel
theorem d_WH_becomeLong_14 : decode b_WH_becomeLong 14 = .ok (.getfield 9, 3) := by decide +kernel
theorem d_WH_becomeLong_17 : decode b_WH_becomeLong 17 = .ok (.iconst 0, 1) := by decide +kernel
theorem d_WH_becomeLong_18 : decode b_WH_becomeLong 18 = .ok (.lload_n 3, 1) := by decide +kernel
theorem d_WH_becomeLong_19 : decode b_WH_becomeLong 19 = .ok (.ldc2_w 33, 3) := by decide +kernel
theorem d_WH_becomeLong_22 : decode b_WH_becomeLong 22 = .ok (.land, 1) := by decide +kernel
theorem d_WH_becomeLong_23 : decode b_WH_becomeLong 23 = .ok (.lastore, 1) := by decide +kernel
theorem d_WH_becomeLong_24 : decode b_WH_becomeLong 24 = .ok (.aload_n 0, 1) := by decide +kernel
theorem d_WH_becomeLong_25 : decode b_WH_becomeLong 25 = .ok (.getfield 9, 3) := by decide +kernel
theorem d_WH_becomeLong_28 : decode b_WH_becomeLong 28 = .ok (.iconst 1, 1) := by decide +kernel
theorem d_WH_becomeLong_29 : decode b_WH_becomeLong 29 = .ok (.lload_n 3, 1) := by decide +kernel
theorem d_WH_becomeLong_30 : decode b_WH_becomeLong 30 = .ok (.bipush 32, 2) := by decide +kernel
theorem d_WH_becomeLong_32 : decode b_WH_becomeLong 32 = .ok (.lushr, 1) := by decide +kernel
theorem d_WH_becomeLong_33 : decode b_WH_becomeLong 33 = .ok (.lastore, 1) := by decide +kernel
theorem d_WH_becomeLong_34 : decode b_WH_becomeLong 34 = .ok (.aload_n 0, 1) := by decide +kernel
theorem d_WH_becomeLong_35 : decode b_WH_becomeLong 35 = .ok (.iconst 2, 1) := by decide +kernel
theorem d_WH_becomeLong_36 : decode b_WH_becomeLong 36 = .ok (.invokevirtual 23, 3) := by decide +kernel
theorem d_WH_becomeLong_39 : decode b_WH_becomeLong 39 = .ok (.aload_n 0, 1) := by decide +kernel
theorem d_WH_becomeLong_40 : decode b_WH_becomeLong 40 = .ok (.lload_n 1, 1) := by decide +kernel
theorem d_WH_becomeLong_41 : decode b_WH_becomeLong 41 = .ok (.lconst 0, 1) := by decide +kernel
theorem d_WH_becomeLong_42 : decode b_WH_becomeLong 42 = .ok (.lcmp, 1) := by decide +kernel
theorem d_WH_becomeLong_43 : decode b_WH_becomeLong 43 = .ok (.ifCond .ge 7, 3) := by decide +kernel
theorem d_WH_becomeLong_46 : decode b_WH_becomeLong 46 = .ok (.iconst 1, 1) := by decide +kernel
theorem d_WH_becomeLong_47 : decode b_WH_becomeLong 47 = .ok (.goto 4, 3) := by decide +kernel
theorem d_WH_becomeLong_50 : decode b_WH_becomeLong 50 = .ok (.iconst 0, 1) := by decide +kernel
theorem d_WH_becomeLong_51 : decode b_WH_becomeLong 51 = .ok (.invokevirtual 35, 3) := by decide +kernel
theorem d_WH_becomeLong_54 : decode b_WH_becomeLong 54 = .ok (.return_, 1) := by decide +kernel
theorem d_WH_become_0 : decode b_WH_become 0 = .ok (.aload_n 1, 1) := by decide +kernel
theorem d_WH_become_1 : decode b_WH_become 1 = .ok (.getfield 9, 3) := by decide +kernel
theorem d_WH_become_4 : decode b_WH_become 4 = .ok (.iconst 0, 1) := by decide +kernel
theorem d_WH_become_5 : decode b_WH_become 5 = .ok (.aload_n 0, 1) := by decide +kernel
theorem d_WH_become_6 : decode b_WH_become 6 = .ok (.getfield 9, 3) := by decide +kernel
theorem d_WH_become_9 : decode b_WH_become 9 = .ok (.iconst 0, 1) := by decide +kernel
theorem d_WH_become_10 : decode b_WH_become 10 = .ok (.sipush 258, 3) := by decide +kernel
theorem d_WH_become_13 : decode b_WH_become 13 = .ok (.invokestatic 27, 3) := by decide +kernel
theorem d_WH_become_16 : decode b_WH_become 16 = .ok (.aload_n 0, 1) := by decide +kernel
theorem d_WH_become_17 : decode b_WH_become 17 = .ok (.aload_n 1, 1) := by decide +kernel
theorem d_WH_become_18 : decode b_WH_become 18 = .ok (.getfield 15, 3) := by decide +kernel
theorem d_WH_become_21 : decode b_WH_become 21 = .ok (.putfield 15, 3) := by decide +kernel
theorem d_WH_become_24 : decode b_WH_become 24 = .ok (.aload_n 0, 1) := by decide +kernel
theorem d_WH_become_25 : decode b_WH_become 25 = .ok (.aload_n 1, 1) := by decide +kernel
theorem d_WH_become_26 : decode b_WH_become 26 = .ok (.getfield 19, 3) := by decide +kernel
theorem d_WH_become_29 : decode b_WH_become 29 = .ok (.putfield 19, 3) := by decide +kernel
theorem d_WH_become_32 : decode b_WH_become 32 = .ok (.return_, 1) := by decide +kernel
theorem d_WH_bitsOf_0 : decode b_WH_bitsOf 0 = .ok (.iconst 0, 1) := by decide +kernel
theorem d_WH_bitsOf_1 : decode b_WH_bitsOf 1 = .ok (.istore_n 2, 1) := by decide +kernel
theorem d_WH_bitsOf_2 : decode b_WH_bitsOf 2 = .ok (.iload_n 2, 1) := by decide +kernel
theorem d_WH_bitsOf_3 : decode b_WH_bitsOf 3 = .ok (.bipush 32, 2) := by decide +kernel
theorem d_WH_bitsOf_5 : decode b_WH_bitsOf 5 = .ok (.if_icmp .ge 17, 3) := by decide +kernel
theorem d_WH_bitsOf_8 : decode b_WH_bitsOf 8 = .ok (.lload_n 0, 1) := by decide +kernel
theorem d_WH_bitsOf_9 : decode b_WH_bitsOf 9 = .ok (.iload_n 2, 1) := by decide +kernel
theorem d_WH_bitsOf_10 : decode b_WH_bitsOf 10 = .ok (.lushr, 1) := by decide +kernel
theorem d_WH_bitsOf_11 : decode b_WH_bitsOf 11 = .ok (.lconst 0, 1) := by decide +kernel
theorem d_WH_bitsOf_12 : decode b_WH_bitsOf 12 = .ok (.lcmp, 1) := by decide +kernel
theorem d_WH_bitsOf_13 : decode b_WH_bitsOf 13 = .ok (.ifCond .eq 9, 3) := by decide +kernel
theorem d_WH_bitsOf_16 : decode b_WH_bitsOf 16 = .ok (.iinc 2 1, 3) := by decide +kernel
theorem d_WH_bitsOf_19 : decode b_WH_bitsOf 19 = .ok (.goto (-17), 3) := by decide +kernel
theorem d_WH_bitsOf_22 : decode b_WH_bitsOf 22 = .ok (.iload_n 2, 1) := by decide +kernel
theorem d_WH_bitsOf_23 : decode b_WH_bitsOf 23 = .ok (.ireturn, 1) := by decide +kernel
theorem d_WH_bits_0 : decode b_WH_bits 0 = .ok (.aload_n 0, 1) := by decide +kernel
theorem d_WH_bits_1 : decode b_WH_bits 1 = .ok (.getfield 15, 3) := by decide +kernel
theorem d_WH_bits_4 : decode b_WH_bits 4 = .ok (.ifCond .le 30, 3) := by decide +kernel
theorem d_WH_bits_7 : decode b_WH_bits 7 = .ok (.bipush 32, 2) := by decide +kernel
theorem d_WH_bits_9 : decode b_WH_bits 9 = .ok (.aload_n 0, 1) := by decide +kernel
theorem d_WH_bits_10 : decode b_WH_bits 10 = .ok (.getfield 15, 3) := by decide +kernel
theorem d_WH_bits_13 : decode b_WH_bits 13 = .ok (.iconst 1, 1) := by decide +kernel
theorem d_WH_bits_14 : decode b_WH_bits 14 = .ok (.isub, 1) := by decide +kernel
theorem d_WH_bits_15 : decode b_WH_bits 15 = .ok (.imul, 1) := by decide +kernel
theorem d_WH_bits_16 : decode b_WH_bits 16 = .ok (.aload_n 0, 1) := by decide +kernel
theorem d_WH_bits_17 : decode b_WH_bits 17 = .ok (.getfield 9, 3) := by decide +kernel
theorem d_WH_bits_20 : decode b_WH_bits 20 = .ok (.aload_n 0, 1) := by decide +kernel
theorem d_WH_bits_21 : decode b_WH_bits 21 = .ok (.getfield 15, 3) := by decide +kernel
theorem d_WH_bits_24 : decode b_WH_bits 24 = .ok (.iconst 1, 1) := by decide +kernel
theorem d_WH_bits_25 : decode b_WH_bits 25 = .ok (.isub, 1) := by decide +kernel
theorem d_WH_bits_26 : decode b_WH_bits 26 = .ok (.laload, 1) := by decide +kernel
theorem d_WH_bits_27 : decode b_WH_bits 27 = .ok (.invokestatic 52, 3) := by decide +kernel
theorem d_WH_bits_30 : decode b_WH_bits 30 = .ok (.iadd, 1) := by decide +kernel
theorem d_WH_bits_31 : decode b_WH_bits 31 = .ok (.goto 4, 3) := by decide +kernel
theorem d_WH_bits_34 : decode b_WH_bits 34 = .ok (.iconst 0, 1) := by decide +kernel
theorem d_WH_bits_35 : decode b_WH_bits 35 = .ok (.ireturn, 1) := by decide +kernel
theorem d_WH_at_0 : decode b_WH_at 0 = .ok (.iload_n 1, 1) := by decide +kernel
theorem d_WH_at_1 : decode b_WH_at 1 = .ok (.ifCond .lt 19, 3) := by decide +kernel
theorem d_WH_at_4 : decode b_WH_at 4 = .ok (.iload_n 1, 1) := by decide +kernel
theorem d_WH_at_5 : decode b_WH_at 5 = .ok (.sipush 258, 3) := by decide +kernel
theorem d_WH_at_8 : decode b_WH_at 8 = .ok (.if_icmp .ge 12, 3) := by decide +kernel
theorem d_WH_at_11 : decode b_WH_at 11 = .ok (.aload_n 0, 1) := by decide +kernel
theorem d_WH_at_12 : decode b_WH_at 12 = .ok (.getfield 9, 3) := by decide +kernel
theorem d_WH_at_15 : decode b_WH_at 15 = .ok (.iload_n 1, 1) := by decide +kernel
theorem d_WH_at_16 : decode b_WH_at 16 = .ok (.laload, 1) := by decide +kernel
theorem d_WH_at_17 : decode b_WH_at 17 = .ok (.goto 4, 3) := by decide +kernel
theorem d_WH_at_20 : decode b_WH_at 20 = .ok (.lconst 0, 1) := by decide +kernel
theorem d_WH_at_21 : decode b_WH_at 21 = .ok (.lreturn, 1) := by decide +kernel
theorem d_WH_becomeShiftedUp_0 : decode b_WH_becomeShiftedUp 0 = .ok (.iload_n 2, 1) := by decide +kernel
theorem d_WH_becomeShiftedUp_1 : decode b_WH_becomeShiftedUp 1 = .ok (.bipush 32, 2) := by decide +kernel
theorem d_WH_becomeShiftedUp_3 : decode b_WH_becomeShiftedUp 3 = .ok (.idiv, 1) := by decide +kernel
theorem d_WH_becomeShiftedUp_4 : decode b_WH_becomeShiftedUp 4 = .ok (.istore_n 3, 1) := by decide +kernel
theorem d_WH_becomeShiftedUp_5 : decode b_WH_becomeShiftedUp 5 = .ok (.iload_n 2, 1) := by decide +kernel
theorem d_WH_becomeShiftedUp_6 : decode b_WH_becomeShiftedUp 6 = .ok (.bipush 32, 2) := by decide +kernel
theorem d_WH_becomeShiftedUp_8 : decode b_WH_becomeShiftedUp 8 = .ok (.irem, 1) := by decide +kernel
theorem d_WH_becomeShiftedUp_9 : decode b_WH_becomeShiftedUp 9 = .ok (.istore 4, 2) := by decide +kernel
theorem d_WH_becomeShiftedUp_11 : decode b_WH_becomeShiftedUp 11 = .ok (.aload_n 1, 1) := by decide +kernel
theorem d_WH_becomeShiftedUp_12 : decode b_WH_becomeShiftedUp 12 = .ok (.getfield 15, 3) := by decide +kernel
theorem d_WH_becomeShiftedUp_15 : decode b_WH_becomeShiftedUp 15 = .ok (.iload_n 3, 1) := by decide +kernel
theorem d_WH_becomeShiftedUp_16 : decode b_WH_becomeShiftedUp 16 = .ok (.iadd, 1) := by decide +kernel
theorem d_WH_becomeShiftedUp_17 : decode b_WH_becomeShiftedUp 17 = .ok (.iconst 1, 1) := by decide +kernel
theorem d_WH_becomeShiftedUp_18 : decode b_WH_becomeShiftedUp 18 = .ok (.iadd, 1) := by decide +kernel
theorem d_WH_becomeShiftedUp_19 : decode b_WH_becomeShiftedUp 19 = .ok (.sipush 258, 3) := by decide +kernel
theorem d_WH_becomeShiftedUp_22 : decode b_WH_becomeShiftedUp 22 = .ok (.invokestatic 39, 3) := by decide +kernel
theorem d_WH_becomeShiftedUp_25 : decode b_WH_becomeShiftedUp 25 = .ok (.istore 5, 2) := by decide +kernel
theorem d_WH_becomeShiftedUp_27 : decode b_WH_becomeShiftedUp 27 = .ok (.iload 5, 2) := by decide +kernel
theorem d_WH_becomeShiftedUp_29 : decode b_WH_becomeShiftedUp 29 = .ok (.iconst 1, 1) := by decide +kernel
theorem d_WH_becomeShiftedUp_30 : decode b_WH_becomeShiftedUp 30 = .ok (.isub, 1) := by decide +kernel
theorem d_WH_becomeShiftedUp_31 : decode b_WH_becomeShiftedUp 31 = .ok (.istore 6, 2) := by decide +kernel
theorem d_WH_becomeShiftedUp_33 : decode b_WH_becomeShiftedUp 33 = .ok (.iload 6, 2) := by decide +kernel
theorem d_WH_becomeShiftedUp_35 : decode b_WH_becomeShiftedUp 35 = .ok (.ifCond .lt 52, 3) := by decide +kernel
theorem d_WH_becomeShiftedUp_38 : decode b_WH_becomeShiftedUp 38 = .ok (.aload_n 1, 1) := by decide +kernel
theorem d_WH_becomeShiftedUp_39 : decode b_WH_becomeShiftedUp 39 = .ok (.iload 6, 2) := by decide +kernel
theorem d_WH_becomeShiftedUp_41 : decode b_WH_becomeShiftedUp 41 = .ok (.iload_n 3, 1) := by decide +kernel
theorem d_WH_becomeShiftedUp_42 : decode b_WH_becomeShiftedUp 42 = .ok (.isub, 1) := by decide +kernel
theorem d_WH_becomeShiftedUp_43 : decode b_WH_becomeShiftedUp 43 = .ok (.iconst 1, 1) := by decide +kernel
theorem d_WH_becomeShiftedUp_44 : decode b_WH_becomeShiftedUp 44 = .ok (.isub, 1) := by decide +kernel
theorem d_WH_becomeShiftedUp_45 : decode b_WH_becomeShiftedUp 45 = .ok (.invokevirtual 45, 3) := by decide +kernel
theorem d_WH_becomeShiftedUp_48 : decode b_WH_becomeShiftedUp 48 = .ok (.bipush 32, 2) := by decide +kernel
theorem d_WH_becomeShiftedUp_50 : decode b_WH_becomeShiftedUp 50 = .ok (.iload 4, 2) := by decide +kernel
theorem d_WH_becomeShiftedUp_52 : decode b_WH_becomeShiftedUp 52 = .ok (.isub, 1) := by decide +kernel
theorem d_WH_becomeShiftedUp_53 : decode b_WH_becomeShiftedUp 53 = .ok (.lushr, 1) := by decide +kernel
theorem d_WH_becomeShiftedUp_54 : decode b_WH_becomeShiftedUp 54 = .ok (.lstore 7, 2) := by decide +kernel
theorem d_WH_becomeShiftedUp_56 : decode b_WH_becomeShiftedUp 56 = .ok (.aload_n 0, 1) := by decide +kernel
theorem d_WH_becomeShiftedUp_57 : decode b_WH_becomeShiftedUp 57 = .ok (.getfield 9, 3) := by decide +kernel
theorem d_WH_becomeShiftedUp_60 : decode b_WH_becomeShiftedUp 60 = .ok (.iload 6, 2) := by decide +kernel
theorem d_WH_becomeShiftedUp_62 : decode b_WH_becomeShiftedUp 62 = .ok (.aload_n 1, 1) := by decide +kernel
theorem d_WH_becomeShiftedUp_63 : decode b_WH_becomeShiftedUp 63 = .ok (.iload 6, 2) := by decide +kernel
theorem d_WH_becomeShiftedUp_65 : decode b_WH_becomeShiftedUp 65 = .ok (.iload_n 3, 1) := by decide +kernel
theorem d_WH_becomeShiftedUp_66 : decode b_WH_becomeShiftedUp 66 = .ok (.isub, 1) := by decide +kernel
theorem d_WH_becomeShiftedUp_67 : decode b_WH_becomeShiftedUp 67 = .ok (.invokevirtual 45, 3) := by decide +kernel
theorem d_WH_becomeShiftedUp_70 : decode b_WH_becomeShiftedUp 70 = .ok (.iload 4, 2) := by decide +kernel
theorem d_WH_becomeShiftedUp_72 : decode b_WH_becomeShiftedUp 72 = .ok (.lshl, 1) := by decide +kernel
theorem d_WH_becomeShiftedUp_73 : decode b_WH_becomeShiftedUp 73 = .ok (.lload 7, 2) := by decide +kernel
theorem d_WH_becomeShiftedUp_75 : decode b_WH_becomeShiftedUp 75 = .ok (.lor, 1) := by decide +kernel
theorem d_WH_becomeShiftedUp_76 : decode b_WH_becomeShiftedUp 76 = .ok (.ldc2_w 33, 3) := by decide +kernel
theorem d_WH_becomeShiftedUp_79 : decode b_WH_becomeShiftedUp 79 = .ok (.land, 1) := by decide +kernel
theorem d_WH_becomeShiftedUp_80 : decode b_WH_becomeShiftedUp 80 = .ok (.lastore, 1) := by decide +kernel
theorem d_WH_becomeShiftedUp_81 : decode b_WH_becomeShiftedUp 81 = .ok (.iinc 6 (-1), 3) := by decide +kernel
theorem d_WH_becomeShiftedUp_84 : decode b_WH_becomeShiftedUp 84 = .ok (.goto (-51), 3) := by decide +kernel
theorem d_WH_becomeShiftedUp_87 : decode b_WH_becomeShiftedUp 87 = .ok (.aload_n 0, 1) := by decide +kernel
theorem d_WH_becomeShiftedUp_88 : decode b_WH_becomeShiftedUp 88 = .ok (.iload 5, 2) := by decide +kernel
theorem d_WH_becomeShiftedUp_90 : decode b_WH_becomeShiftedUp 90 = .ok (.invokevirtual 23, 3) := by decide +kernel
theorem d_WH_becomeShiftedUp_93 : decode b_WH_becomeShiftedUp 93 = .ok (.return_, 1) := by decide +kernel
theorem d_WH_becomeShiftedDown_0 : decode b_WH_becomeShiftedDown 0 = .ok (.iload_n 2, 1) := by decide +kernel
theorem d_WH_becomeShiftedDown_1 : decode b_WH_becomeShiftedDown 1 = .ok (.bipush 32, 2) := by decide +kernel
theorem d_WH_becomeShiftedDown_3 : decode b_WH_becomeShiftedDown 3 = .ok (.idiv, 1) := by decide +kernel
theorem d_WH_becomeShiftedDown_4 : decode b_WH_becomeShiftedDown 4 = .ok (.istore_n 3, 1) := by decide +kernel
theorem d_WH_becomeShiftedDown_5 : decode b_WH_becomeShiftedDown 5 = .ok (.iload_n 2, 1) := by decide +kernel
theorem d_WH_becomeShiftedDown_6 : decode b_WH_becomeShiftedDown 6 = .ok (.bipush 32, 2) := by decide +kernel
theorem d_WH_becomeShiftedDown_8 : decode b_WH_becomeShiftedDown 8 = .ok (.irem, 1) := by decide +kernel
theorem d_WH_becomeShiftedDown_9 : decode b_WH_becomeShiftedDown 9 = .ok (.istore 4, 2) := by decide +kernel
theorem d_WH_becomeShiftedDown_11 : decode b_WH_becomeShiftedDown 11 = .ok (.aload_n 1, 1) := by decide +kernel
theorem d_WH_becomeShiftedDown_12 : decode b_WH_becomeShiftedDown 12 = .ok (.getfield 15, 3) := by decide +kernel
theorem d_WH_becomeShiftedDown_15 : decode b_WH_becomeShiftedDown 15 = .ok (.iload_n 3, 1) := by decide +kernel
theorem d_WH_becomeShiftedDown_16 : decode b_WH_becomeShiftedDown 16 = .ok (.isub, 1) := by decide +kernel
theorem d_WH_becomeShiftedDown_17 : decode b_WH_becomeShiftedDown 17 = .ok (.iconst 0, 1) := by decide +kernel
theorem d_WH_becomeShiftedDown_18 : decode b_WH_becomeShiftedDown 18 = .ok (.invokestatic 49, 3) := by decide +kernel
theorem d_WH_becomeShiftedDown_21 : decode b_WH_becomeShiftedDown 21 = .ok (.istore 5, 2) := by decide +kernel
theorem d_WH_becomeShiftedDown_23 : decode b_WH_becomeShiftedDown 23 = .ok (.iconst 0, 1) := by decide +kernel
theorem d_WH_becomeShiftedDown_24 : decode b_WH_becomeShiftedDown 24 = .ok (.istore 6, 2) := by decide +kernel
theorem d_WH_becomeShiftedDown_26 : decode b_WH_becomeShiftedDown 26 = .ok (.iload 6, 2) := by decide +kernel
theorem d_WH_becomeShiftedDown_28 : decode b_WH_becomeShiftedDown 28 = .ok (.iload 5, 2) := by decide +kernel
theorem d_WH_becomeShiftedDown_30 : decode b_WH_becomeShiftedDown 30 = .ok (.if_icmp .ge 52, 3) := by decide +kernel
theorem d_WH_becomeShiftedDown_33 : decode b_WH_becomeShiftedDown 33 = .ok (.aload_n 1, 1) := by decide +kernel
theorem d_WH_becomeShiftedDown_34 : decode b_WH_becomeShiftedDown 34 = .ok (.iload 6, 2) := by decide +kernel
theorem d_WH_becomeShiftedDown_36 : decode b_WH_becomeShiftedDown 36 = .ok (.iload_n 3, 1) := by decide +kernel
theorem d_WH_becomeShiftedDown_37 : decode b_WH_becomeShiftedDown 37 = .ok (.iadd, 1) := by decide +kernel
theorem d_WH_becomeShiftedDown_38 : decode b_WH_becomeShiftedDown 38 = .ok (.iconst 1, 1) := by decide +kernel
theorem d_WH_becomeShiftedDown_39 : decode b_WH_becomeShiftedDown 39 = .ok (.iadd, 1) := by decide +kernel
theorem d_WH_becomeShiftedDown_40 : decode b_WH_becomeShiftedDown 40 = .ok (.invokevirtual 45, 3) := by decide +kernel
theorem d_WH_becomeShiftedDown_43 : decode b_WH_becomeShiftedDown 43 = .ok (.bipush 32, 2) := by decide +kernel
theorem d_WH_becomeShiftedDown_45 : decode b_WH_becomeShiftedDown 45 = .ok (.iload 4, 2) := by decide +kernel
theorem d_WH_becomeShiftedDown_47 : decode b_WH_becomeShiftedDown 47 = .ok (.isub, 1) := by decide +kernel
theorem d_WH_becomeShiftedDown_48 : decode b_WH_becomeShiftedDown 48 = .ok (.lshl, 1) := by decide +kernel
theorem d_WH_becomeShiftedDown_49 : decode b_WH_becomeShiftedDown 49 = .ok (.lstore 7, 2) := by decide +kernel
theorem d_WH_becomeShiftedDown_51 : decode b_WH_becomeShiftedDown 51 = .ok (.aload_n 0, 1) := by decide +kernel
theorem d_WH_becomeShiftedDown_52 : decode b_WH_becomeShiftedDown 52 = .ok (.getfield 9, 3) := by decide +kernel
theorem d_WH_becomeShiftedDown_55 : decode b_WH_becomeShiftedDown 55 = .ok (.iload 6, 2) := by decide +kernel
theorem d_WH_becomeShiftedDown_57 : decode b_WH_becomeShiftedDown 57 = .ok (.aload_n 1, 1) := by decide +kernel
theorem d_WH_becomeShiftedDown_58 : decode b_WH_becomeShiftedDown 58 = .ok (.iload 6, 2) := by decide +kernel
theorem d_WH_becomeShiftedDown_60 : decode b_WH_becomeShiftedDown 60 = .ok (.iload_n 3, 1) := by decide +kernel
theorem d_WH_becomeShiftedDown_61 : decode b_WH_becomeShiftedDown 61 = .ok (.iadd, 1) := by decide +kernel
theorem d_WH_becomeShiftedDown_62 : decode b_WH_becomeShiftedDown 62 = .ok (.invokevirtual 45, 3) := by decide +kernel
theorem d_WH_becomeShiftedDown_65 : decode b_WH_becomeShiftedDown 65 = .ok (.iload 4, 2) := by decide +kernel
theorem d_WH_becomeShiftedDown_67 : decode b_WH_becomeShiftedDown 67 = .ok (.lushr, 1) := by decide +kernel
theorem d_WH_becomeShiftedDown_68 : decode b_WH_becomeShiftedDown 68 = .ok (.lload 7, 2) := by decide +kernel
theorem d_WH_becomeShiftedDown_70 : decode b_WH_becomeShiftedDown 70 = .ok (.lor, 1) := by decide +kernel
theorem d_WH_becomeShiftedDown_71 : decode b_WH_becomeShiftedDown 71 = .ok (.ldc2_w 33, 3) := by decide +kernel
theorem d_WH_becomeShiftedDown_74 : decode b_WH_becomeShiftedDown 74 = .ok (.land, 1) := by decide +kernel
theorem d_WH_becomeShiftedDown_75 : decode b_WH_becomeShiftedDown 75 = .ok (.lastore, 1) := by decide +kernel
theorem d_WH_becomeShiftedDown_76 : decode b_WH_becomeShiftedDown 76 = .ok (.iinc 6 1, 3) := by decide +kernel
theorem d_WH_becomeShiftedDown_79 : decode b_WH_becomeShiftedDown 79 = .ok (.goto (-53), 3) := by decide +kernel
theorem d_WH_becomeShiftedDown_82 : decode b_WH_becomeShiftedDown 82 = .ok (.aload_n 0, 1) := by decide +kernel
theorem d_WH_becomeShiftedDown_83 : decode b_WH_becomeShiftedDown 83 = .ok (.iload 5, 2) := by decide +kernel
theorem d_WH_becomeShiftedDown_85 : decode b_WH_becomeShiftedDown 85 = .ok (.invokevirtual 23, 3) := by decide +kernel
theorem d_WH_becomeShiftedDown_88 : decode b_WH_becomeShiftedDown 88 = .ok (.return_, 1) := by decide +kernel
theorem d_WH_endingZeros_0 : decode b_WH_endingZeros 0 = .ok (.iconst 0, 1) := by decide +kernel
theorem d_WH_endingZeros_1 : decode b_WH_endingZeros 1 = .ok (.istore_n 1, 1) := by decide +kernel
theorem d_WH_endingZeros_2 : decode b_WH_endingZeros 2 = .ok (.iload_n 1, 1) := by decide +kernel
theorem d_WH_endingZeros_3 : decode b_WH_endingZeros 3 = .ok (.aload_n 0, 1) := by decide +kernel
theorem d_WH_endingZeros_4 : decode b_WH_endingZeros 4 = .ok (.getfield 15, 3) := by decide +kernel
theorem d_WH_endingZeros_7 : decode b_WH_endingZeros 7 = .ok (.if_icmp .ge 40, 3) := by decide +kernel
theorem d_WH_endingZeros_10 : decode b_WH_endingZeros 10 = .ok (.aload_n 0, 1) := by decide +kernel
theorem d_WH_endingZeros_11 : decode b_WH_endingZeros 11 = .ok (.getfield 9, 3) := by decide +kernel
theorem d_WH_endingZeros_14 : decode b_WH_endingZeros 14 = .ok (.iload_n 1, 1) := by decide +kernel
theorem d_WH_endingZeros_15 : decode b_WH_endingZeros 15 = .ok (.laload, 1) := by decide +kernel
theorem d_WH_endingZeros_16 : decode b_WH_endingZeros 16 = .ok (.lstore_n 2, 1) := by decide +kernel
theorem d_WH_endingZeros_17 : decode b_WH_endingZeros 17 = .ok (.lload_n 2, 1) := by decide +kernel
theorem d_WH_endingZeros_18 : decode b_WH_endingZeros 18 = .ok (.lconst 0, 1) := by decide +kernel
theorem d_WH_endingZeros_19 : decode b_WH_endingZeros 19 = .ok (.lcmp, 1) := by decide +kernel
theorem d_WH_endingZeros_20 : decode b_WH_endingZeros 20 = .ok (.ifCond .eq 21, 3) := by decide +kernel
theorem d_WH_endingZeros_23 : decode b_WH_endingZeros 23 = .ok (.bipush 32, 2) := by decide +kernel
theorem d_WH_endingZeros_25 : decode b_WH_endingZeros 25 = .ok (.iload_n 1, 1) := by decide +kernel
theorem d_WH_endingZeros_26 : decode b_WH_endingZeros 26 = .ok (.imul, 1) := by decide +kernel
theorem d_WH_endingZeros_27 : decode b_WH_endingZeros 27 = .ok (.lload_n 2, 1) := by decide +kernel
theorem d_WH_endingZeros_28 : decode b_WH_endingZeros 28 = .ok (.ldc2_w 56, 3) := by decide +kernel
theorem d_WH_endingZeros_31 : decode b_WH_endingZeros 31 = .ok (.lxor, 1) := by decide +kernel
theorem d_WH_endingZeros_32 : decode b_WH_endingZeros 32 = .ok (.lload_n 2, 1) := by decide +kernel
theorem d_WH_endingZeros_33 : decode b_WH_endingZeros 33 = .ok (.lconst 1, 1) := by decide +kernel
theorem d_WH_endingZeros_34 : decode b_WH_endingZeros 34 = .ok (.lsub, 1) := by decide +kernel
theorem d_WH_endingZeros_35 : decode b_WH_endingZeros 35 = .ok (.land, 1) := by decide +kernel
theorem d_WH_endingZeros_36 : decode b_WH_endingZeros 36 = .ok (.invokestatic 58, 3) := by decide +kernel
theorem d_WH_endingZeros_39 : decode b_WH_endingZeros 39 = .ok (.iadd, 1) := by decide +kernel
theorem d_WH_endingZeros_40 : decode b_WH_endingZeros 40 = .ok (.ireturn, 1) := by decide +kernel
theorem d_WH_endingZeros_41 : decode b_WH_endingZeros 41 = .ok (.iinc 1 1, 3) := by decide +kernel
theorem d_WH_endingZeros_44 : decode b_WH_endingZeros 44 = .ok (.goto (-42), 3) := by decide +kernel
theorem d_WH_endingZeros_47 : decode b_WH_endingZeros 47 = .ok (.iconst 0, 1) := by decide +kernel
theorem d_WH_endingZeros_48 : decode b_WH_endingZeros 48 = .ok (.ireturn, 1) := by decide +kernel
theorem d_WH_addOne_0 : decode b_WH_addOne 0 = .ok (.iconst 0, 1) := by decide +kernel
theorem d_WH_addOne_1 : decode b_WH_addOne 1 = .ok (.istore_n 1, 1) := by decide +kernel
theorem d_WH_addOne_2 : decode b_WH_addOne 2 = .ok (.iload_n 1, 1) := by decide +kernel
theorem d_WH_addOne_3 : decode b_WH_addOne 3 = .ok (.aload_n 0, 1) := by decide +kernel
theorem d_WH_addOne_4 : decode b_WH_addOne 4 = .ok (.getfield 15, 3) := by decide +kernel
theorem d_WH_addOne_7 : decode b_WH_addOne 7 = .ok (.if_icmp .ge 29, 3) := by decide +kernel
theorem d_WH_addOne_10 : decode b_WH_addOne 10 = .ok (.aload_n 0, 1) := by decide +kernel
theorem d_WH_addOne_11 : decode b_WH_addOne 11 = .ok (.getfield 9, 3) := by decide +kernel
theorem d_WH_addOne_14 : decode b_WH_addOne 14 = .ok (.iload_n 1, 1) := by decide +kernel
theorem d_WH_addOne_15 : decode b_WH_addOne 15 = .ok (.laload, 1) := by decide +kernel
theorem d_WH_addOne_16 : decode b_WH_addOne 16 = .ok (.ldc2_w 33, 3) := by decide +kernel
theorem d_WH_addOne_19 : decode b_WH_addOne 19 = .ok (.lcmp, 1) := by decide +kernel
theorem d_WH_addOne_20 : decode b_WH_addOne 20 = .ok (.ifCond .ne 16, 3) := by decide +kernel
theorem d_WH_addOne_23 : decode b_WH_addOne 23 = .ok (.aload_n 0, 1) := by decide +kernel
theorem d_WH_addOne_24 : decode b_WH_addOne 24 = .ok (.getfield 9, 3) := by decide +kernel
theorem d_WH_addOne_27 : decode b_WH_addOne 27 = .ok (.iload_n 1, 1) := by decide +kernel
theorem d_WH_addOne_28 : decode b_WH_addOne 28 = .ok (.lconst 0, 1) := by decide +kernel
theorem d_WH_addOne_29 : decode b_WH_addOne 29 = .ok (.lastore, 1) := by decide +kernel
theorem d_WH_addOne_30 : decode b_WH_addOne 30 = .ok (.iinc 1 1, 3) := by decide +kernel
theorem d_WH_addOne_33 : decode b_WH_addOne 33 = .ok (.goto (-31), 3) := by decide +kernel
theorem d_WH_addOne_36 : decode b_WH_addOne 36 = .ok (.iload_n 1, 1) := by decide +kernel
theorem d_WH_addOne_37 : decode b_WH_addOne 37 = .ok (.sipush 258, 3) := by decide +kernel
theorem d_WH_addOne_40 : decode b_WH_addOne 40 = .ok (.if_icmp .ge 27, 3) := by decide +kernel
theorem d_WH_addOne_43 : decode b_WH_addOne 43 = .ok (.aload_n 0, 1) := by decide +kernel
theorem d_WH_addOne_44 : decode b_WH_addOne 44 = .ok (.getfield 9, 3) := by decide +kernel
theorem d_WH_addOne_47 : decode b_WH_addOne 47 = .ok (.iload_n 1, 1) := by decide +kernel
theorem d_WH_addOne_48 : decode b_WH_addOne 48 = .ok (.dup2, 1) := by decide +kernel
theorem d_WH_addOne_49 : decode b_WH_addOne 49 = .ok (.laload, 1) := by decide +kernel
theorem d_WH_addOne_50 : decode b_WH_addOne 50 = .ok (.lconst 1, 1) := by decide +kernel
theorem d_WH_addOne_51 : decode b_WH_addOne 51 = .ok (.ladd, 1) := by decide +kernel
theorem d_WH_addOne_52 : decode b_WH_addOne 52 = .ok (.lastore, 1) := by decide +kernel
theorem d_WH_addOne_53 : decode b_WH_addOne 53 = .ok (.aload_n 0, 1) := by decide +kernel
theorem d_WH_addOne_54 : decode b_WH_addOne 54 = .ok (.aload_n 0, 1) := by decide +kernel
theorem d_WH_addOne_55 : decode b_WH_addOne 55 = .ok (.getfield 15, 3) := by decide +kernel
theorem d_WH_addOne_58 : decode b_WH_addOne 58 = .ok (.iload_n 1, 1) := by decide +kernel
theorem d_WH_addOne_59 : decode b_WH_addOne 59 = .ok (.iconst 1, 1) := by decide +kernel
theorem d_WH_addOne_60 : decode b_WH_addOne 60 = .ok (.iadd, 1) := by decide +kernel
theorem d_WH_addOne_61 : decode b_WH_addOne 61 = .ok (.invokestatic 49, 3) := by decide +kernel
theorem d_WH_addOne_64 : decode b_WH_addOne 64 = .ok (.putfield 15, 3) := by decide +kernel
theorem d_WH_addOne_67 : decode b_WH_addOne 67 = .ok (.return_, 1) := by decide +kernel
theorem d_WH_clear_0 : decode b_WH_clear 0 = .ok (.aload_n 0, 1) := by decide +kernel
theorem d_WH_clear_1 : decode b_WH_clear 1 = .ok (.iconst 0, 1) := by decide +kernel
theorem d_WH_clear_2 : decode b_WH_clear 2 = .ok (.invokevirtual 23, 3) := by decide +kernel
theorem d_WH_clear_5 : decode b_WH_clear 5 = .ok (.aload_n 0, 1) := by decide +kernel
theorem d_WH_clear_6 : decode b_WH_clear 6 = .ok (.iconst 0, 1) := by decide +kernel
theorem d_WH_clear_7 : decode b_WH_clear 7 = .ok (.putfield 19, 3) := by decide +kernel
theorem d_WH_clear_10 : decode b_WH_clear 10 = .ok (.return_, 1) := by decide +kernel
theorem d_WH_longFrom_0 : decode b_WH_longFrom 0 = .ok (.iload_n 1, 1) := by decide +kernel
theorem d_WH_longFrom_1 : decode b_WH_longFrom 1 = .ok (.bipush 32, 2) := by decide +kernel
theorem d_WH_longFrom_3 : decode b_WH_longFrom 3 = .ok (.idiv, 1) := by decide +kernel
theorem d_WH_longFrom_4 : decode b_WH_longFrom 4 = .ok (.istore_n 2, 1) := by decide +kernel
theorem d_WH_longFrom_5 : decode b_WH_longFrom 5 = .ok (.iload_n 1, 1) := by decide +kernel
theorem d_WH_longFrom_6 : decode b_WH_longFrom 6 = .ok (.bipush 32, 2) := by decide +kernel
theorem d_WH_longFrom_8 : decode b_WH_longFrom 8 = .ok (.irem, 1) := by decide +kernel
theorem d_WH_longFrom_9 : decode b_WH_longFrom 9 = .ok (.istore_n 3, 1) := by decide +kernel
theorem d_WH_longFrom_10 : decode b_WH_longFrom 10 = .ok (.aload_n 0, 1) := by decide +kernel
theorem d_WH_longFrom_11 : decode b_WH_longFrom 11 = .ok (.iload_n 2, 1) := by decide +kernel
theorem d_WH_longFrom_12 : decode b_WH_longFrom 12 = .ok (.iconst 1, 1) := by decide +kernel
theorem d_WH_longFrom_13 : decode b_WH_longFrom 13 = .ok (.iadd, 1) := by decide +kernel
theorem d_WH_longFrom_14 : decode b_WH_longFrom 14 = .ok (.invokevirtual 45, 3) := by decide +kernel
theorem d_WH_longFrom_17 : decode b_WH_longFrom 17 = .ok (.bipush 32, 2) := by decide +kernel
theorem d_WH_longFrom_19 : decode b_WH_longFrom 19 = .ok (.lshl, 1) := by decide +kernel
theorem d_WH_longFrom_20 : decode b_WH_longFrom 20 = .ok (.aload_n 0, 1) := by decide +kernel
theorem d_WH_longFrom_21 : decode b_WH_longFrom 21 = .ok (.iload_n 2, 1) := by decide +kernel
theorem d_WH_longFrom_22 : decode b_WH_longFrom 22 = .ok (.invokevirtual 45, 3) := by decide +kernel
theorem d_WH_longFrom_25 : decode b_WH_longFrom 25 = .ok (.lor, 1) := by decide +kernel
theorem d_WH_longFrom_26 : decode b_WH_longFrom 26 = .ok (.lstore 4, 2) := by decide +kernel
theorem d_WH_longFrom_28 : decode b_WH_longFrom 28 = .ok (.iload_n 3, 1) := by decide +kernel
theorem d_WH_longFrom_29 : decode b_WH_longFrom 29 = .ok (.ifCond .ne 8, 3) := by decide +kernel
theorem d_WH_longFrom_32 : decode b_WH_longFrom 32 = .ok (.lload 4, 2) := by decide +kernel
theorem d_WH_longFrom_34 : decode b_WH_longFrom 34 = .ok (.goto 20, 3) := by decide +kernel
theorem d_WH_longFrom_37 : decode b_WH_longFrom 37 = .ok (.lload 4, 2) := by decide +kernel
theorem d_WH_longFrom_39 : decode b_WH_longFrom 39 = .ok (.iload_n 3, 1) := by decide +kernel
theorem d_WH_longFrom_40 : decode b_WH_longFrom 40 = .ok (.lushr, 1) := by decide +kernel
theorem d_WH_longFrom_41 : decode b_WH_longFrom 41 = .ok (.aload_n 0, 1) := by decide +kernel
theorem d_WH_longFrom_42 : decode b_WH_longFrom 42 = .ok (.iload_n 2, 1) := by decide +kernel
theorem d_WH_longFrom_43 : decode b_WH_longFrom 43 = .ok (.iconst 2, 1) := by decide +kernel
theorem d_WH_longFrom_44 : decode b_WH_longFrom 44 = .ok (.iadd, 1) := by decide +kernel
theorem d_WH_longFrom_45 : decode b_WH_longFrom 45 = .ok (.invokevirtual 45, 3) := by decide +kernel
theorem d_WH_longFrom_48 : decode b_WH_longFrom 48 = .ok (.bipush 64, 2) := by decide +kernel
theorem d_WH_longFrom_50 : decode b_WH_longFrom 50 = .ok (.iload_n 3, 1) := by decide +kernel
theorem d_WH_longFrom_51 : decode b_WH_longFrom 51 = .ok (.isub, 1) := by decide +kernel
theorem d_WH_longFrom_52 : decode b_WH_longFrom 52 = .ok (.lshl, 1) := by decide +kernel
theorem d_WH_longFrom_53 : decode b_WH_longFrom 53 = .ok (.lor, 1) := by decide +kernel
theorem d_WH_longFrom_54 : decode b_WH_longFrom 54 = .ok (.lreturn, 1) := by decide +kernel
theorem d_WH_lowestLong_0 : decode b_WH_lowestLong 0 = .ok (.aload_n 0, 1) := by decide +kernel
theorem d_WH_lowestLong_1 : decode b_WH_lowestLong 1 = .ok (.getfield 9, 3) := by decide +kernel
theorem d_WH_lowestLong_4 : decode b_WH_lowestLong 4 = .ok (.iconst 1, 1) := by decide +kernel
theorem d_WH_lowestLong_5 : decode b_WH_lowestLong 5 = .ok (.laload, 1) := by decide +kernel
theorem d_WH_lowestLong_6 : decode b_WH_lowestLong 6 = .ok (.bipush 32, 2) := by decide +kernel
theorem d_WH_lowestLong_8 : decode b_WH_lowestLong 8 = .ok (.lshl, 1) := by decide +kernel
theorem d_WH_lowestLong_9 : decode b_WH_lowestLong 9 = .ok (.aload_n 0, 1) := by decide +kernel
theorem d_WH_lowestLong_10 : decode b_WH_lowestLong 10 = .ok (.getfield 9, 3) := by decide +kernel
theorem d_WH_lowestLong_13 : decode b_WH_lowestLong 13 = .ok (.iconst 0, 1) := by decide +kernel
theorem d_WH_lowestLong_14 : decode b_WH_lowestLong 14 = .ok (.laload, 1) := by decide +kernel
theorem d_WH_lowestLong_15 : decode b_WH_lowestLong 15 = .ok (.lor, 1) := by decide +kernel
theorem d_WH_lowestLong_16 : decode b_WH_lowestLong 16 = .ok (.lreturn, 1) := by decide +kernel
theorem d_WH_asLong_0 : decode b_WH_asLong 0 = .ok (.aload_n 0, 1) := by decide +kernel
theorem d_WH_asLong_1 : decode b_WH_asLong 1 = .ok (.getfield 19, 3) := by decide +kernel
theorem d_WH_asLong_4 : decode b_WH_asLong 4 = .ok (.ifCond .eq 11, 3) := by decide +kernel
theorem d_WH_asLong_7 : decode b_WH_asLong 7 = .ok (.aload_n 0, 1) := by decide +kernel
theorem d_WH_asLong_8 : decode b_WH_asLong 8 = .ok (.invokevirtual 63, 3) := by decide +kernel
theorem d_WH_asLong_11 : decode b_WH_asLong 11 = .ok (.lneg, 1) := by decide +kernel
theorem d_WH_asLong_12 : decode b_WH_asLong 12 = .ok (.goto 7, 3) := by decide +kernel
theorem d_WH_asLong_15 : decode b_WH_asLong 15 = .ok (.aload_n 0, 1) := by decide +kernel
theorem d_WH_asLong_16 : decode b_WH_asLong 16 = .ok (.invokevirtual 63, 3) := by decide +kernel
theorem d_WH_asLong_19 : decode b_WH_asLong 19 = .ok (.lreturn, 1) := by decide +kernel
theorem d_WH_isLong_0 : decode b_WH_isLong 0 = .ok (.aload_n 0, 1) := by decide +kernel
theorem d_WH_isLong_1 : decode b_WH_isLong 1 = .ok (.invokevirtual 63, 3) := by decide +kernel
theorem d_WH_isLong_4 : decode b_WH_isLong 4 = .ok (.lstore_n 1, 1) := by decide +kernel
theorem d_WH_isLong_5 : decode b_WH_isLong 5 = .ok (.aload_n 0, 1) := by decide +kernel
theorem d_WH_isLong_6 : decode b_WH_isLong 6 = .ok (.getfield 15, 3) := by decide +kernel
theorem d_WH_isLong_9 : decode b_WH_isLong 9 = .ok (.iconst 2, 1) := by decide +kernel
theorem d_WH_isLong_10 : decode b_WH_isLong 10 = .ok (.if_icmp .gt 28, 3) := by decide +kernel
theorem d_WH_isLong_13 : decode b_WH_isLong 13 = .ok (.lload_n 1, 1) := by decide +kernel
theorem d_WH_isLong_14 : decode b_WH_isLong 14 = .ok (.lconst 0, 1) := by decide +kernel
theorem d_WH_isLong_15 : decode b_WH_isLong 15 = .ok (.lcmp, 1) := by decide +kernel
theorem d_WH_isLong_16 : decode b_WH_isLong 16 = .ok (.ifCond .ge 18, 3) := by decide +kernel
theorem d_WH_isLong_19 : decode b_WH_isLong 19 = .ok (.aload_n 0, 1) := by decide +kernel
theorem d_WH_isLong_20 : decode b_WH_isLong 20 = .ok (.getfield 19, 3) := by decide +kernel
theorem d_WH_isLong_23 : decode b_WH_isLong 23 = .ok (.ifCond .eq 15, 3) := by decide +kernel
theorem d_WH_isLong_26 : decode b_WH_isLong 26 = .ok (.lload_n 1, 1) := by decide +kernel
theorem d_WH_isLong_27 : decode b_WH_isLong 27 = .ok (.ldc2_w 67, 3) := by decide +kernel
theorem d_WH_isLong_30 : decode b_WH_isLong 30 = .ok (.lcmp, 1) := by decide +kernel
theorem d_WH_isLong_31 : decode b_WH_isLong 31 = .ok (.ifCond .ne 7, 3) := by decide +kernel
theorem d_WH_isLong_34 : decode b_WH_isLong 34 = .ok (.iconst 1, 1) := by decide +kernel
theorem d_WH_isLong_35 : decode b_WH_isLong 35 = .ok (.goto 4, 3) := by decide +kernel
theorem d_WH_isLong_38 : decode b_WH_isLong 38 = .ok (.iconst 0, 1) := by decide +kernel
theorem d_WH_isLong_39 : decode b_WH_isLong 39 = .ok (.ireturn, 1) := by decide +kernel
theorem d_WH_appendChunk_0 : decode b_WH_appendChunk 0 = .ok (.lload_n 1, 1) := by decide +kernel
theorem d_WH_appendChunk_1 : decode b_WH_appendChunk 1 = .ok (.lstore_n 3, 1) := by decide +kernel
theorem d_WH_appendChunk_2 : decode b_WH_appendChunk 2 = .ok (.iconst 0, 1) := by decide +kernel
theorem d_WH_appendChunk_3 : decode b_WH_appendChunk 3 = .ok (.istore 5, 2) := by decide +kernel
theorem d_WH_appendChunk_5 : decode b_WH_appendChunk 5 = .ok (.iload 5, 2) := by decide +kernel
theorem d_WH_appendChunk_7 : decode b_WH_appendChunk 7 = .ok (.aload_n 0, 1) := by decide +kernel
theorem d_WH_appendChunk_8 : decode b_WH_appendChunk 8 = .ok (.getfield 15, 3) := by decide +kernel
theorem d_WH_appendChunk_11 : decode b_WH_appendChunk 11 = .ok (.if_icmp .ge 43, 3) := by decide +kernel
theorem d_WH_appendChunk_14 : decode b_WH_appendChunk 14 = .ok (.aload_n 0, 1) := by decide +kernel
theorem d_WH_appendChunk_15 : decode b_WH_appendChunk 15 = .ok (.getfield 9, 3) := by decide +kernel
theorem d_WH_appendChunk_18 : decode b_WH_appendChunk 18 = .ok (.iload 5, 2) := by decide +kernel
theorem d_WH_appendChunk_20 : decode b_WH_appendChunk 20 = .ok (.laload, 1) := by decide +kernel
theorem d_WH_appendChunk_21 : decode b_WH_appendChunk 21 = .ok (.ldc2_w 69, 3) := by decide +kernel
theorem d_WH_appendChunk_24 : decode b_WH_appendChunk 24 = .ok (.lmul, 1) := by decide +kernel
theorem d_WH_appendChunk_25 : decode b_WH_appendChunk 25 = .ok (.lload_n 3, 1) := by decide +kernel
theorem d_WH_appendChunk_26 : decode b_WH_appendChunk 26 = .ok (.ladd, 1) := by decide +kernel
theorem d_WH_appendChunk_27 : decode b_WH_appendChunk 27 = .ok (.lstore 6, 2) := by decide +kernel
theorem d_WH_appendChunk_29 : decode b_WH_appendChunk 29 = .ok (.aload_n 0, 1) := by decide +kernel
theorem d_WH_appendChunk_30 : decode b_WH_appendChunk 30 = .ok (.getfield 9, 3) := by decide +kernel
theorem d_WH_appendChunk_33 : decode b_WH_appendChunk 33 = .ok (.iload 5, 2) := by decide +kernel
theorem d_WH_appendChunk_35 : decode b_WH_appendChunk 35 = .ok (.lload 6, 2) := by decide +kernel
theorem d_WH_appendChunk_37 : decode b_WH_appendChunk 37 = .ok (.ldc2_w 33, 3) := by decide +kernel
theorem d_WH_appendChunk_40 : decode b_WH_appendChunk 40 = .ok (.land, 1) := by decide +kernel
theorem d_WH_appendChunk_41 : decode b_WH_appendChunk 41 = .ok (.lastore, 1) := by decide +kernel
theorem d_WH_appendChunk_42 : decode b_WH_appendChunk 42 = .ok (.lload 6, 2) := by decide +kernel
theorem d_WH_appendChunk_44 : decode b_WH_appendChunk 44 = .ok (.bipush 32, 2) := by decide +kernel
theorem d_WH_appendChunk_46 : decode b_WH_appendChunk 46 = .ok (.lushr, 1) := by decide +kernel
theorem d_WH_appendChunk_47 : decode b_WH_appendChunk 47 = .ok (.lstore_n 3, 1) := by decide +kernel
theorem d_WH_appendChunk_48 : decode b_WH_appendChunk 48 = .ok (.iinc 5 1, 3) := by decide +kernel
theorem d_WH_appendChunk_51 : decode b_WH_appendChunk 51 = .ok (.goto (-46), 3) := by decide +kernel
theorem d_WH_appendChunk_54 : decode b_WH_appendChunk 54 = .ok (.lload_n 3, 1) := by decide +kernel
theorem d_WH_appendChunk_55 : decode b_WH_appendChunk 55 = .ok (.lconst 0, 1) := by decide +kernel
theorem d_WH_appendChunk_56 : decode b_WH_appendChunk 56 = .ok (.lcmp, 1) := by decide +kernel
theorem d_WH_appendChunk_57 : decode b_WH_appendChunk 57 = .ok (.ifCond .le 33, 3) := by decide +kernel
theorem d_WH_appendChunk_60 : decode b_WH_appendChunk 60 = .ok (.aload_n 0, 1) := by decide +kernel
theorem d_WH_appendChunk_61 : decode b_WH_appendChunk 61 = .ok (.getfield 15, 3) := by decide +kernel
theorem d_WH_appendChunk_64 : decode b_WH_appendChunk 64 = .ok (.sipush 258, 3) := by decide +kernel
theorem d_WH_appendChunk_67 : decode b_WH_appendChunk 67 = .ok (.if_icmp .ge 23, 3) := by decide +kernel
theorem d_WH_appendChunk_70 : decode b_WH_appendChunk 70 = .ok (.aload_n 0, 1) := by decide +kernel
theorem d_WH_appendChunk_71 : decode b_WH_appendChunk 71 = .ok (.getfield 9, 3) := by decide +kernel
theorem d_WH_appendChunk_74 : decode b_WH_appendChunk 74 = .ok (.aload_n 0, 1) := by decide +kernel
theorem d_WH_appendChunk_75 : decode b_WH_appendChunk 75 = .ok (.getfield 15, 3) := by decide +kernel
theorem d_WH_appendChunk_78 : decode b_WH_appendChunk 78 = .ok (.lload_n 3, 1) := by decide +kernel
theorem d_WH_appendChunk_79 : decode b_WH_appendChunk 79 = .ok (.lastore, 1) := by decide +kernel
theorem d_WH_appendChunk_80 : decode b_WH_appendChunk 80 = .ok (.aload_n 0, 1) := by decide +kernel
theorem d_WH_appendChunk_81 : decode b_WH_appendChunk 81 = .ok (.dup, 1) := by decide +kernel
theorem d_WH_appendChunk_82 : decode b_WH_appendChunk 82 = .ok (.getfield 15, 3) := by decide +kernel
theorem d_WH_appendChunk_85 : decode b_WH_appendChunk 85 = .ok (.iconst 1, 1) := by decide +kernel
theorem d_WH_appendChunk_86 : decode b_WH_appendChunk 86 = .ok (.iadd, 1) := by decide +kernel
theorem d_WH_appendChunk_87 : decode b_WH_appendChunk 87 = .ok (.putfield 15, 3) := by decide +kernel
theorem d_WH_appendChunk_90 : decode b_WH_appendChunk 90 = .ok (.return_, 1) := by decide +kernel
theorem d_WH_takeChunk_0 : decode b_WH_takeChunk 0 = .ok (.lconst 0, 1) := by decide +kernel
theorem d_WH_takeChunk_1 : decode b_WH_takeChunk 1 = .ok (.lstore_n 1, 1) := by decide +kernel
theorem d_WH_takeChunk_2 : decode b_WH_takeChunk 2 = .ok (.aload_n 0, 1) := by decide +kernel
theorem d_WH_takeChunk_3 : decode b_WH_takeChunk 3 = .ok (.getfield 15, 3) := by decide +kernel
theorem d_WH_takeChunk_6 : decode b_WH_takeChunk 6 = .ok (.iconst 1, 1) := by decide +kernel
theorem d_WH_takeChunk_7 : decode b_WH_takeChunk 7 = .ok (.isub, 1) := by decide +kernel
theorem d_WH_takeChunk_8 : decode b_WH_takeChunk 8 = .ok (.istore_n 3, 1) := by decide +kernel
theorem d_WH_takeChunk_9 : decode b_WH_takeChunk 9 = .ok (.iload_n 3, 1) := by decide +kernel
theorem d_WH_takeChunk_10 : decode b_WH_takeChunk 10 = .ok (.ifCond .lt 41, 3) := by decide +kernel
theorem d_WH_takeChunk_13 : decode b_WH_takeChunk 13 = .ok (.lload_n 1, 1) := by decide +kernel
theorem d_WH_takeChunk_14 : decode b_WH_takeChunk 14 = .ok (.bipush 32, 2) := by decide +kernel
theorem d_WH_takeChunk_16 : decode b_WH_takeChunk 16 = .ok (.lshl, 1) := by decide +kernel
theorem d_WH_takeChunk_17 : decode b_WH_takeChunk 17 = .ok (.aload_n 0, 1) := by decide +kernel
theorem d_WH_takeChunk_18 : decode b_WH_takeChunk 18 = .ok (.getfield 9, 3) := by decide +kernel
theorem d_WH_takeChunk_21 : decode b_WH_takeChunk 21 = .ok (.iload_n 3, 1) := by decide +kernel
theorem d_WH_takeChunk_22 : decode b_WH_takeChunk 22 = .ok (.laload, 1) := by decide +kernel
theorem d_WH_takeChunk_23 : decode b_WH_takeChunk 23 = .ok (.lor, 1) := by decide +kernel
theorem d_WH_takeChunk_24 : decode b_WH_takeChunk 24 = .ok (.lstore 4, 2) := by decide +kernel
theorem d_WH_takeChunk_26 : decode b_WH_takeChunk 26 = .ok (.aload_n 0, 1) := by decide +kernel
theorem d_WH_takeChunk_27 : decode b_WH_takeChunk 27 = .ok (.getfield 9, 3) := by decide +kernel
theorem d_WH_takeChunk_30 : decode b_WH_takeChunk 30 = .ok (.iload_n 3, 1) := by decide +kernel
theorem d_WH_takeChunk_31 : decode b_WH_takeChunk 31 = .ok (.lload 4, 2) := by decide +kernel
theorem d_WH_takeChunk_33 : decode b_WH_takeChunk 33 = .ok (.ldc2_w 69, 3) := by decide +kernel
theorem d_WH_takeChunk_36 : decode b_WH_takeChunk 36 = .ok (.ldiv, 1) := by decide +kernel
theorem d_WH_takeChunk_37 : decode b_WH_takeChunk 37 = .ok (.lastore, 1) := by decide +kernel
theorem d_WH_takeChunk_38 : decode b_WH_takeChunk 38 = .ok (.lload 4, 2) := by decide +kernel
theorem d_WH_takeChunk_40 : decode b_WH_takeChunk 40 = .ok (.ldc2_w 69, 3) := by decide +kernel
theorem d_WH_takeChunk_43 : decode b_WH_takeChunk 43 = .ok (.lrem, 1) := by decide +kernel
theorem d_WH_takeChunk_44 : decode b_WH_takeChunk 44 = .ok (.lstore_n 1, 1) := by decide +kernel
theorem d_WH_takeChunk_45 : decode b_WH_takeChunk 45 = .ok (.iinc 3 (-1), 3) := by decide +kernel
theorem d_WH_takeChunk_48 : decode b_WH_takeChunk 48 = .ok (.goto (-39), 3) := by decide +kernel
theorem d_WH_takeChunk_51 : decode b_WH_takeChunk 51 = .ok (.aload_n 0, 1) := by decide +kernel
theorem d_WH_takeChunk_52 : decode b_WH_takeChunk 52 = .ok (.aload_n 0, 1) := by decide +kernel
theorem d_WH_takeChunk_53 : decode b_WH_takeChunk 53 = .ok (.getfield 15, 3) := by decide +kernel
theorem d_WH_takeChunk_56 : decode b_WH_takeChunk 56 = .ok (.invokevirtual 23, 3) := by decide +kernel
theorem d_WH_takeChunk_59 : decode b_WH_takeChunk 59 = .ok (.lload_n 1, 1) := by decide +kernel
theorem d_WH_takeChunk_60 : decode b_WH_takeChunk 60 = .ok (.lreturn, 1) := by decide +kernel
abbrev rm_WH_init : Room := { frames := 1, cells := 1, slots := 258, locals := 20 }
def w_WH_init (a1 : Nat) (h0 : ah_H) (K : ah_H → Prop) : Prop :=
  ∀ q2 : Nat, ah_T h0 q2 = 0 → ∀ h4 : ah_H, h4 = ah_new h0 q2 110 258 → ah_T h4 a1 = 3 ∧ ∀ h8 : ah_H, h8 = ah_sR h4 5 a1 (some q2) → ∀ h12 : ah_H, h12 = ah_sI h8 0 a1 (0 : Int32) → ∀ h16 : ah_H, h16 = ah_sI h12 1 a1 (0 : Int32) → K h16
abbrev rm_WH_settle : Room := { frames := 0, cells := 0, slots := 0, locals := 0 }
def lp_WH_settle_2 (xt_23 : Nat → Int32 → ah_H → Prop) (K : ah_H → Prop) : Nat → Nat → Int32 → Int32 → ah_H → Prop
  | 0, _, _, _, _ => False
  | n + 1, x3, x4, x5, h6 =>
    ah_T h6 x3 = 3 ∧ ((ah_I h6 0 x3) ≤ x5 → (xt_23 x3 x4 h6)) ∧ (¬ (ah_I h6 0 x3) ≤ x5 → (∃ q9, ah_R h6 5 x3 = some q9 ∧ ah_T h6 q9 = 110 ∧ vp_in x5 (ah_N h6 q9) ∧ ∀ h13 : ah_H, h13 = ah_cL h6 q9 (vp_updL (ah_bL h6 q9) x5.toNatClampNeg (0 : Int64)) → ∀ v17 : Int32, v17 = x5 + 1 → (lp_WH_settle_2 xt_23 K n) x3 x4 v17 h13))
def lp_WH_settle_28 (xt_64 : ah_H → Prop) (K : ah_H → Prop) : Nat → Nat → ah_H → Prop
  | 0, _, _ => False
  | n + 1, x25, h26 =>
    ah_T h26 x25 = 3 ∧ ((ah_I h26 0 x25) ≤ 0 → (xt_64 h26)) ∧ (¬ (ah_I h26 0 x25) ≤ 0 → (∃ q29, ah_R h26 5 x25 = some q29 ∧ ah_T h26 q29 = 110 ∧ vp_in ((ah_I h26 0 x25) - (1 : Int32)) (ah_N h26 q29) ∧ (¬ (ah_bL h26 q29 ((ah_I h26 0 x25) - (1 : Int32)).toNatClampNeg) = (0 : Int64) → (xt_64 h26)) ∧ ((ah_bL h26 q29 ((ah_I h26 0 x25) - (1 : Int32)).toNatClampNeg) = (0 : Int64) → (∀ v34 : Int32, v34 = (ah_I h26 0 x25) - (1 : Int32) → ∀ h35 : ah_H, h35 = ah_sI h26 0 x25 v34 → (lp_WH_settle_28 xt_64 K n) x25 h35))))
def bk_WH_settle_64  (K : ah_H → Prop)  (h40 : ah_H) : Prop :=
  K h40
def w_WH_settle (a1 : Nat) (a2 : Int32) (h0 : ah_H) (K : ah_H → Prop) : Prop :=
  ∃ n, lp_WH_settle_2 (fun (x18 : Nat) (x19 : Int32) h20 => ah_T h20 x18 = 3 ∧ ∀ h22 : ah_H, h22 = ah_sI h20 0 x18 x19 → ∃ n, lp_WH_settle_28 (fun  h39 => bk_WH_settle_64 K h39) K n x18 h22) K n a1 a2 a2 h0
abbrev rm_WH_markSign : Room := { frames := 0, cells := 0, slots := 0, locals := 0 }
def bk_WH_markSign_17  (K : ah_H → Prop) (s6 : Int32) (s7 : Nat) (h8 : ah_H) : Prop :=
  ah_T h8 s7 = 3 ∧ (s6 = 0 ∨ s6 = 1) ∧ ∀ h11 : ah_H, h11 = ah_sI h8 1 s7 s6 → K h11
def bk_WH_markSign_16  (K : ah_H → Prop) (s4 : Nat) (h5 : ah_H) : Prop :=
  bk_WH_markSign_17 K (0 : Int32) s4 h5
def w_WH_markSign (a1 : Nat) (a2 : Int32) (h0 : ah_H) (K : ah_H → Prop) : Prop :=
  (a2 = 0 → (bk_WH_markSign_16 K a1 h0)) ∧ (¬ a2 = 0 → (ah_T h0 a1 = 3 ∧ ((ah_I h0 0 a1) ≤ 0 → (bk_WH_markSign_16 K a1 h0)) ∧ (¬ (ah_I h0 0 a1) ≤ 0 → (bk_WH_markSign_17 K (1 : Int32) a1 h0))))
abbrev rm_WH_becomeLong : Room := { frames := 1, cells := 0, slots := 0, locals := 22 }
def bk_WH_becomeLong_51  (K : ah_H → Prop) (s34 : Int32) (s35 : Nat) (h36 : ah_H) : Prop :=
  ah_T h36 s35 = 3 ∧ w_WH_markSign s35 s34 h36 (fun h38 => ah_m h36 h38 → K h38)
def bk_WH_becomeLong_12  (K : ah_H → Prop) (x4 : Nat) (x5 : Int64) (s6 : Int64) (h7 : ah_H) : Prop :=
  ah_T h7 x4 = 3 ∧ ∃ q9, ah_R h7 5 x4 = some q9 ∧ ∀ v11 : Int64, v11 = s6 &&& (4294967295 : Int64) → ah_T h7 q9 = 110 ∧ vp_in (0 : Int32) (ah_N h7 q9) ∧ ∀ h14 : ah_H, h14 = ah_cL h7 q9 (vp_updL (ah_bL h7 q9) (0 : Int32).toNatClampNeg v11) → ∃ q18, ah_R h14 5 x4 = some q18 ∧ ∀ v20 : Int64, v20 = (s6.toUInt64 >>> ((32 : Int32).toInt64.toUInt64 &&& Int64.toUInt64 63)).toInt64 → ah_T h14 q18 = 110 ∧ vp_in (1 : Int32) (ah_N h14 q18) ∧ ∀ h23 : ah_H, h23 = ah_cL h14 q18 (vp_updL (ah_bL h14 q18) (1 : Int32).toNatClampNeg v20) → w_WH_settle x4 (2 : Int32) h23 (fun h28 => ah_m h23 h28 → ((0 : Int64) ≤ x5 → (bk_WH_becomeLong_51 K (0 : Int32) x4 h28)) ∧ (¬ (0 : Int64) ≤ x5 → (bk_WH_becomeLong_51 K (1 : Int32) x4 h28)))
def w_WH_becomeLong (a1 : Nat) (a2 : Int64) (h0 : ah_H) (K : ah_H → Prop) : Prop :=
  ((0 : Int64) ≤ a2 → (bk_WH_becomeLong_12 K a1 a2 a2 h0)) ∧ (¬ (0 : Int64) ≤ a2 → (bk_WH_becomeLong_12 K a1 a2 (-a2) h0))
abbrev rm_WH_become : Room := { frames := 1, cells := 0, slots := 0, locals := 40 }
def w_WH_become (a1 : Nat) (a2 : Nat) (h0 : ah_H) (K : ah_H → Prop) : Prop :=
  ah_T h0 a2 = 3 ∧ ∃ q4, ah_R h0 5 a2 = some q4 ∧ ah_T h0 a1 = 3 ∧ ∃ q7, ah_R h0 5 a1 = some q7 ∧ ah_T h0 q7 = 110 ∧ ah_T h0 q4 = 110 ∧ (¬ (0 : Int32) < 0) ∧ (¬ (0 : Int32) < 0) ∧ (¬ (258 : Int32) < 0) ∧ ((0 : Int32).toNatClampNeg + (258 : Int32).toNatClampNeg ≤ ah_N h0 q4) ∧ ((0 : Int32).toNatClampNeg + (258 : Int32).toNatClampNeg ≤ ah_N h0 q7) ∧ ∀ h16 : ah_H, h16 = ah_cL h0 q7 (va_cpy (ah_bL h0 q4) (ah_bL h0 q7) (0 : Int32).toNatClampNeg (0 : Int32).toNatClampNeg (258 : Int32).toNatClampNeg) → ∀ v22 : Int32, v22 = ah_I h16 0 a2 → ∀ h23 : ah_H, h23 = ah_sI h16 0 a1 v22 → ∀ v29 : Int32, v29 = ah_I h23 1 a2 → (v29 = 0 ∨ v29 = 1) ∧ ∀ h31 : ah_H, h31 = ah_sI h23 1 a1 v29 → K h31
abbrev rm_WH_bitsOf : Room := { frames := 0, cells := 0, slots := 0, locals := 0 }
def lp_WH_bitsOf_2 (xt_22 : Int32 → ah_H → Prop) (K : Int32 → ah_H → Prop) : Nat → Int64 → Int32 → ah_H → Prop
  | 0, _, _, _ => False
  | n + 1, x2, x3, h4 =>
    ((32 : Int32) ≤ x3 → (xt_22 x3 h4)) ∧ (¬ (32 : Int32) ≤ x3 → ((((x2.toUInt64 >>> (x3.toInt64.toUInt64 &&& Int64.toUInt64 63)).toInt64) = (0 : Int64) → (xt_22 x3 h4)) ∧ (¬ ((x2.toUInt64 >>> (x3.toInt64.toUInt64 &&& Int64.toUInt64 63)).toInt64) = (0 : Int64) → (∀ v7 : Int32, v7 = x3 + 1 → (lp_WH_bitsOf_2 xt_22 K n) x2 v7 h4))))
def bk_WH_bitsOf_22  (K : Int32 → ah_H → Prop) (x10 : Int32) (h11 : ah_H) : Prop :=
  K x10 h11
def w_WH_bitsOf (a1 : Int64) (h0 : ah_H) (K : Int32 → ah_H → Prop) : Prop :=
  ∃ n, lp_WH_bitsOf_2 (fun (x8 : Int32) h9 => bk_WH_bitsOf_22 K x8 h9) K n a1 (0 : Int32) h0
abbrev rm_WH_bits : Room := { frames := 1, cells := 0, slots := 0, locals := 22 }
def bk_WH_bits_35  (K : Int32 → ah_H → Prop) (s4 : Int32) (h5 : ah_H) : Prop :=
  K s4 h5
def w_WH_bits (a1 : Nat) (h0 : ah_H) (K : Int32 → ah_H → Prop) : Prop :=
  ah_T h0 a1 = 3 ∧ ((ah_I h0 0 a1) ≤ 0 → (bk_WH_bits_35 K (0 : Int32) h0)) ∧ (¬ (ah_I h0 0 a1) ≤ 0 → (∃ q6, ah_R h0 5 a1 = some q6 ∧ ah_T h0 q6 = 110 ∧ vp_in ((ah_I h0 0 a1) - (1 : Int32)) (ah_N h0 q6) ∧ w_WH_bitsOf (ah_bL h0 q6 ((ah_I h0 0 a1) - (1 : Int32)).toNatClampNeg) h0 (fun r11 h10 => ah_m h0 h10 → bk_WH_bits_35 K (((32 : Int32) * ((ah_I h0 0 a1) - (1 : Int32))) + r11) h10)))
abbrev rm_WH_at : Room := { frames := 0, cells := 0, slots := 0, locals := 0 }
def bk_WH_at_21  (K : Int64 → ah_H → Prop) (s5 : Int64) (h6 : ah_H) : Prop :=
  K s5 h6
def bk_WH_at_20  (K : Int64 → ah_H → Prop)  (h4 : ah_H) : Prop :=
  bk_WH_at_21 K (0 : Int64) h4
def w_WH_at (a1 : Nat) (a2 : Int32) (h0 : ah_H) (K : Int64 → ah_H → Prop) : Prop :=
  (a2 < 0 → (bk_WH_at_20 K h0)) ∧ (¬ a2 < 0 → (((258 : Int32) ≤ a2 → (bk_WH_at_20 K h0)) ∧ (¬ (258 : Int32) ≤ a2 → (ah_T h0 a1 = 3 ∧ ∃ q9, ah_R h0 5 a1 = some q9 ∧ ah_T h0 q9 = 110 ∧ vp_in a2 (ah_N h0 q9) ∧ bk_WH_at_21 K (ah_bL h0 q9 a2.toNatClampNeg) h0))))
abbrev rm_WH_becomeShiftedUp : Room := { frames := 1, cells := 0, slots := 0, locals := 24 }
def lp_WH_becomeShiftedUp_33 (xt_87 : Nat → Int32 → ah_H → Prop) (K : ah_H → Prop) : Nat → Nat → Nat → Int32 → Int32 → Int32 → Int32 → ah_H → Prop
  | 0, _, _, _, _, _, _, _ => False
  | n + 1, x9, x10, x11, x12, x13, x14, h15 =>
    (x14 < 0 → (xt_87 x9 x13 h15)) ∧ (¬ x14 < 0 → (ah_T h15 x10 = 3 ∧ w_WH_at x10 ((x14 - x11) - (1 : Int32)) h15 (fun r19 h18 => ah_m h15 h18 → ∀ v22 : Int64, v22 = (r19.toUInt64 >>> (((32 : Int32) - x12).toInt64.toUInt64 &&& Int64.toUInt64 63)).toInt64 → ah_T h18 x9 = 3 ∧ ∃ q24, ah_R h18 5 x9 = some q24 ∧ w_WH_at x10 (x14 - x11) h18 (fun r27 h26 => ah_m h18 h26 → ∀ v31 : Int64, v31 = ((r27 <<< (x12.toInt64 &&& 63)) ||| v22) &&& (4294967295 : Int64) → ah_T h26 q24 = 110 ∧ vp_in x14 (ah_N h26 q24) ∧ ∀ h34 : ah_H, h34 = ah_cL h26 q24 (vp_updL (ah_bL h26 q24) x14.toNatClampNeg v31) → ∀ v39 : Int32, v39 = x14 + (-1) → (lp_WH_becomeShiftedUp_33 xt_87 K n) x9 x10 x11 x12 x13 v39 h34))))
def w_WH_becomeShiftedUp (a1 : Nat) (a2 : Nat) (a3 : Int32) (h0 : ah_H) (K : ah_H → Prop) : Prop :=
  ∀ v4 : Int32, v4 = a3 / (32 : Int32) → ∀ v5 : Int32, v5 = a3 - a3 / (32 : Int32) * (32 : Int32) → ah_T h0 a2 = 3 ∧ ∀ v7 : Int32, v7 = (if (258 : Int32) < (((ah_I h0 0 a2) + v4) + (1 : Int32)) then (258 : Int32) else (((ah_I h0 0 a2) + v4) + (1 : Int32))) → ∀ v8 : Int32, v8 = v7 - (1 : Int32) → ∃ n, lp_WH_becomeShiftedUp_33 (fun (x40 : Nat) (x41 : Int32) h42 => ah_T h42 x40 = 3 ∧ w_WH_settle x40 x41 h42 (fun h44 => ah_m h42 h44 → K h44)) K n a1 a2 v4 v5 v7 v8 h0
abbrev rm_WH_becomeShiftedDown : Room := { frames := 1, cells := 0, slots := 0, locals := 24 }
def lp_WH_becomeShiftedDown_26 (xt_82 : Nat → Int32 → ah_H → Prop) (K : ah_H → Prop) : Nat → Nat → Nat → Int32 → Int32 → Int32 → Int32 → ah_H → Prop
  | 0, _, _, _, _, _, _, _ => False
  | n + 1, x8, x9, x10, x11, x12, x13, h14 =>
    (x12 ≤ x13 → (xt_82 x8 x12 h14)) ∧ (¬ x12 ≤ x13 → (ah_T h14 x9 = 3 ∧ w_WH_at x9 ((x13 + x10) + (1 : Int32)) h14 (fun r18 h17 => ah_m h14 h17 → ∀ v21 : Int64, v21 = r18 <<< (((32 : Int32) - x11).toInt64 &&& 63) → ah_T h17 x8 = 3 ∧ ∃ q23, ah_R h17 5 x8 = some q23 ∧ w_WH_at x9 (x13 + x10) h17 (fun r26 h25 => ah_m h17 h25 → ∀ v30 : Int64, v30 = (((r26.toUInt64 >>> (x11.toInt64.toUInt64 &&& Int64.toUInt64 63)).toInt64) ||| v21) &&& (4294967295 : Int64) → ah_T h25 q23 = 110 ∧ vp_in x13 (ah_N h25 q23) ∧ ∀ h33 : ah_H, h33 = ah_cL h25 q23 (vp_updL (ah_bL h25 q23) x13.toNatClampNeg v30) → ∀ v38 : Int32, v38 = x13 + 1 → (lp_WH_becomeShiftedDown_26 xt_82 K n) x8 x9 x10 x11 x12 v38 h33))))
def w_WH_becomeShiftedDown (a1 : Nat) (a2 : Nat) (a3 : Int32) (h0 : ah_H) (K : ah_H → Prop) : Prop :=
  ∀ v4 : Int32, v4 = a3 / (32 : Int32) → ∀ v5 : Int32, v5 = a3 - a3 / (32 : Int32) * (32 : Int32) → ah_T h0 a2 = 3 ∧ ∀ v7 : Int32, v7 = (if ((ah_I h0 0 a2) - v4) < (0 : Int32) then (0 : Int32) else ((ah_I h0 0 a2) - v4)) → ∃ n, lp_WH_becomeShiftedDown_26 (fun (x39 : Nat) (x40 : Int32) h41 => ah_T h41 x39 = 3 ∧ w_WH_settle x39 x40 h41 (fun h43 => ah_m h41 h43 → K h43)) K n a1 a2 v4 v5 v7 (0 : Int32) h0
abbrev rm_WH_endingZeros : Room := { frames := 1, cells := 0, slots := 0, locals := 21 }
def lp_WH_endingZeros_2 (xt_23 : Int32 → Int64 → ah_H → Prop) (xt_47 : ah_H → Prop) (K : Int32 → ah_H → Prop) : Nat → Nat → Int32 → ah_H → Prop
  | 0, _, _, _ => False
  | n + 1, x2, x3, h4 =>
    ah_T h4 x2 = 3 ∧ ((ah_I h4 0 x2) ≤ x3 → (xt_47 h4)) ∧ (¬ (ah_I h4 0 x2) ≤ x3 → (∃ q7, ah_R h4 5 x2 = some q7 ∧ ah_T h4 q7 = 110 ∧ vp_in x3 (ah_N h4 q7) ∧ ∀ v11 : Int64, v11 = ah_bL h4 q7 x3.toNatClampNeg → (v11 = (0 : Int64) → (∀ v13 : Int32, v13 = x3 + 1 → (lp_WH_endingZeros_2 xt_23 xt_47 K n) x2 v13 h4)) ∧ (¬ v11 = (0 : Int64) → (xt_23 x3 v11 h4))))
def w_WH_endingZeros (a1 : Nat) (h0 : ah_H) (K : Int32 → ah_H → Prop) : Prop :=
  ∃ n, lp_WH_endingZeros_2 (fun (x14 : Int32) (x15 : Int64) h16 => w_JL_bitCount ((x15 ^^^ (-1 : Int64)) &&& (x15 - (1 : Int64))) h16 (fun r18 h17 => ah_m h16 h17 → K (((32 : Int32) * x14) + r18) h17)) (fun  h20 => K (0 : Int32) h20) K n a1 (0 : Int32) h0
abbrev rm_WH_addOne : Room := { frames := 1, cells := 0, slots := 0, locals := 24 }
def lp_WH_addOne_2 (xt_36 : Nat → Int32 → ah_H → Prop) (K : ah_H → Prop) : Nat → Nat → Int32 → ah_H → Prop
  | 0, _, _, _ => False
  | n + 1, x2, x3, h4 =>
    ah_T h4 x2 = 3 ∧ ((ah_I h4 0 x2) ≤ x3 → (xt_36 x2 x3 h4)) ∧ (¬ (ah_I h4 0 x2) ≤ x3 → (∃ q7, ah_R h4 5 x2 = some q7 ∧ ah_T h4 q7 = 110 ∧ vp_in x3 (ah_N h4 q7) ∧ (¬ (ah_bL h4 q7 x3.toNatClampNeg) = (4294967295 : Int64) → (xt_36 x2 x3 h4)) ∧ ((ah_bL h4 q7 x3.toNatClampNeg) = (4294967295 : Int64) → (∃ q12, ah_R h4 5 x2 = some q12 ∧ ah_T h4 q12 = 110 ∧ vp_in x3 (ah_N h4 q12) ∧ ∀ h16 : ah_H, h16 = ah_cL h4 q12 (vp_updL (ah_bL h4 q12) x3.toNatClampNeg (0 : Int64)) → ∀ v21 : Int32, v21 = x3 + 1 → (lp_WH_addOne_2 xt_36 K n) x2 v21 h16))))
def bk_WH_addOne_67  (K : ah_H → Prop)  (h29 : ah_H) : Prop :=
  K h29
def bk_WH_addOne_36  (K : ah_H → Prop) (x25 : Nat) (x26 : Int32) (h27 : ah_H) : Prop :=
  ((258 : Int32) ≤ x26 → (bk_WH_addOne_67 K h27)) ∧ (¬ (258 : Int32) ≤ x26 → (ah_T h27 x25 = 3 ∧ ∃ q31, ah_R h27 5 x25 = some q31 ∧ ah_T h27 q31 = 110 ∧ vp_in x26 (ah_N h27 q31) ∧ ∀ v35 : Int64, v35 = (ah_bL h27 q31 x26.toNatClampNeg) + (1 : Int64) → vp_in x26 (ah_N h27 q31) ∧ ∀ h37 : ah_H, h37 = ah_cL h27 q31 (vp_updL (ah_bL h27 q31) x26.toNatClampNeg v35) → ∀ v41 : Int32, v41 = (if (ah_I h37 0 x25) < (x26 + (1 : Int32)) then (x26 + (1 : Int32)) else (ah_I h37 0 x25)) → ∀ h42 : ah_H, h42 = ah_sI h37 0 x25 v41 → bk_WH_addOne_67 K h42))
def w_WH_addOne (a1 : Nat) (h0 : ah_H) (K : ah_H → Prop) : Prop :=
  ∃ n, lp_WH_addOne_2 (fun (x22 : Nat) (x23 : Int32) h24 => bk_WH_addOne_36 K x22 x23 h24) K n a1 (0 : Int32) h0
abbrev rm_WH_clear : Room := { frames := 1, cells := 0, slots := 0, locals := 22 }
def w_WH_clear (a1 : Nat) (h0 : ah_H) (K : ah_H → Prop) : Prop :=
  ah_T h0 a1 = 3 ∧ w_WH_settle a1 (0 : Int32) h0 (fun h3 => ah_m h0 h3 → ∀ h6 : ah_H, h6 = ah_sI h3 1 a1 (0 : Int32) → K h6)
abbrev rm_WH_longFrom : Room := { frames := 1, cells := 0, slots := 0, locals := 21 }
def bk_WH_longFrom_54  (K : Int64 → ah_H → Prop) (s20 : Int64) (h21 : ah_H) : Prop :=
  K s20 h21
def w_WH_longFrom (a1 : Nat) (a2 : Int32) (h0 : ah_H) (K : Int64 → ah_H → Prop) : Prop :=
  ∀ v3 : Int32, v3 = a2 / (32 : Int32) → ∀ v4 : Int32, v4 = a2 - a2 / (32 : Int32) * (32 : Int32) → ah_T h0 a1 = 3 ∧ w_WH_at a1 (v3 + (1 : Int32)) h0 (fun r7 h6 => ah_m h0 h6 → w_WH_at a1 v3 h6 (fun r11 h10 => ah_m h6 h10 → ∀ v14 : Int64, v14 = (r7 <<< ((32 : Int32).toInt64 &&& 63)) ||| r11 → (¬ v4 = 0 → (w_WH_at a1 (v3 + (2 : Int32)) h10 (fun r17 h16 => ah_m h10 h16 → bk_WH_longFrom_54 K (((v14.toUInt64 >>> (v4.toInt64.toUInt64 &&& Int64.toUInt64 63)).toInt64) ||| (r17 <<< (((64 : Int32) - v4).toInt64 &&& 63))) h16))) ∧ (v4 = 0 → (bk_WH_longFrom_54 K v14 h10))))
abbrev rm_WH_lowestLong : Room := { frames := 0, cells := 0, slots := 0, locals := 0 }
def w_WH_lowestLong (a1 : Nat) (h0 : ah_H) (K : Int64 → ah_H → Prop) : Prop :=
  ah_T h0 a1 = 3 ∧ ∃ q3, ah_R h0 5 a1 = some q3 ∧ ah_T h0 q3 = 110 ∧ vp_in (1 : Int32) (ah_N h0 q3) ∧ ∃ q7, ah_R h0 5 a1 = some q7 ∧ ah_T h0 q7 = 110 ∧ vp_in (0 : Int32) (ah_N h0 q7) ∧ K (((ah_bL h0 q3 (1 : Int32).toNatClampNeg) <<< ((32 : Int32).toInt64 &&& 63)) ||| (ah_bL h0 q7 (0 : Int32).toNatClampNeg)) h0
abbrev rm_WH_asLong : Room := { frames := 1, cells := 0, slots := 0, locals := 20 }
def bk_WH_asLong_19  (K : Int64 → ah_H → Prop) (s8 : Int64) (h9 : ah_H) : Prop :=
  K s8 h9
def w_WH_asLong (a1 : Nat) (h0 : ah_H) (K : Int64 → ah_H → Prop) : Prop :=
  ah_T h0 a1 = 3 ∧ ((ah_I h0 1 a1) = 0 → (w_WH_lowestLong a1 h0 (fun r5 h4 => ah_m h0 h4 → bk_WH_asLong_19 K r5 h4))) ∧ (¬ (ah_I h0 1 a1) = 0 → (w_WH_lowestLong a1 h0 (fun r11 h10 => ah_m h0 h10 → bk_WH_asLong_19 K (-r11) h10)))
abbrev rm_WH_isLong : Room := { frames := 1, cells := 0, slots := 0, locals := 20 }
def bk_WH_isLong_39  (K : Int32 → ah_H → Prop) (s9 : Int32) (h10 : ah_H) : Prop :=
  (s9 = 0 ∨ s9 = 1) ∧ K s9 h10
def bk_WH_isLong_38  (K : Int32 → ah_H → Prop)  (h8 : ah_H) : Prop :=
  bk_WH_isLong_39 K (0 : Int32) h8
def bk_WH_isLong_34  (K : Int32 → ah_H → Prop)  (h13 : ah_H) : Prop :=
  bk_WH_isLong_39 K (1 : Int32) h13
def w_WH_isLong (a1 : Nat) (h0 : ah_H) (K : Int32 → ah_H → Prop) : Prop :=
  ah_T h0 a1 = 3 ∧ w_WH_lowestLong a1 h0 (fun r4 h3 => ah_m h0 h3 → ((2 : Int32) < (ah_I h3 0 a1) → (bk_WH_isLong_38 K h3)) ∧ (¬ (2 : Int32) < (ah_I h3 0 a1) → (((0 : Int64) ≤ r4 → (bk_WH_isLong_34 K h3)) ∧ (¬ (0 : Int64) ≤ r4 → (((ah_I h3 1 a1) = 0 → (bk_WH_isLong_38 K h3)) ∧ (¬ (ah_I h3 1 a1) = 0 → ((¬ r4 = (-9223372036854775808 : Int64) → (bk_WH_isLong_38 K h3)) ∧ (r4 = (-9223372036854775808 : Int64) → (bk_WH_isLong_34 K h3)))))))))
abbrev rm_WH_appendChunk : Room := { frames := 0, cells := 0, slots := 0, locals := 0 }
def lp_WH_appendChunk_5 (xt_54 : Nat → Int64 → ah_H → Prop) (K : ah_H → Prop) : Nat → Nat → Int64 → Int32 → ah_H → Prop
  | 0, _, _, _, _ => False
  | n + 1, x3, x4, x5, h6 =>
    ah_T h6 x3 = 3 ∧ ((ah_I h6 0 x3) ≤ x5 → (xt_54 x3 x4 h6)) ∧ (¬ (ah_I h6 0 x3) ≤ x5 → (∃ q9, ah_R h6 5 x3 = some q9 ∧ ah_T h6 q9 = 110 ∧ vp_in x5 (ah_N h6 q9) ∧ ∀ v13 : Int64, v13 = ((ah_bL h6 q9 x5.toNatClampNeg) * (1000000000 : Int64)) + x4 → ∃ q14, ah_R h6 5 x3 = some q14 ∧ ∀ v16 : Int64, v16 = v13 &&& (4294967295 : Int64) → ah_T h6 q14 = 110 ∧ vp_in x5 (ah_N h6 q14) ∧ ∀ h19 : ah_H, h19 = ah_cL h6 q14 (vp_updL (ah_bL h6 q14) x5.toNatClampNeg v16) → ∀ v24 : Int64, v24 = (v13.toUInt64 >>> ((32 : Int32).toInt64.toUInt64 &&& Int64.toUInt64 63)).toInt64 → ∀ v25 : Int32, v25 = x5 + 1 → (lp_WH_appendChunk_5 xt_54 K n) x3 v24 v25 h19))
def bk_WH_appendChunk_90  (K : ah_H → Prop)  (h30 : ah_H) : Prop :=
  K h30
def w_WH_appendChunk (a1 : Nat) (a2 : Int64) (h0 : ah_H) (K : ah_H → Prop) : Prop :=
  ∃ n, lp_WH_appendChunk_5 (fun (x26 : Nat) (x27 : Int64) h28 => (x27 ≤ (0 : Int64) → (bk_WH_appendChunk_90 K h28)) ∧ (¬ x27 ≤ (0 : Int64) → (ah_T h28 x26 = 3 ∧ ((258 : Int32) ≤ (ah_I h28 0 x26) → (bk_WH_appendChunk_90 K h28)) ∧ (¬ (258 : Int32) ≤ (ah_I h28 0 x26) → (∃ q33, ah_R h28 5 x26 = some q33 ∧ ah_T h28 q33 = 110 ∧ vp_in (ah_I h28 0 x26) (ah_N h28 q33) ∧ ∀ h37 : ah_H, h37 = ah_cL h28 q33 (vp_updL (ah_bL h28 q33) (ah_I h28 0 x26).toNatClampNeg x27) → ∀ v41 : Int32, v41 = (ah_I h37 0 x26) + (1 : Int32) → ∀ h42 : ah_H, h42 = ah_sI h37 0 x26 v41 → bk_WH_appendChunk_90 K h42))))) K n a1 a2 (0 : Int32) h0
abbrev rm_WH_takeChunk : Room := { frames := 1, cells := 0, slots := 0, locals := 22 }
def lp_WH_takeChunk_9 (xt_51 : Nat → Int64 → ah_H → Prop) (K : Int64 → ah_H → Prop) : Nat → Nat → Int64 → Int32 → ah_H → Prop
  | 0, _, _, _, _ => False
  | n + 1, x4, x5, x6, h7 =>
    (x6 < 0 → (xt_51 x4 x5 h7)) ∧ (¬ x6 < 0 → (ah_T h7 x4 = 3 ∧ ∃ q10, ah_R h7 5 x4 = some q10 ∧ ah_T h7 q10 = 110 ∧ vp_in x6 (ah_N h7 q10) ∧ ∀ v14 : Int64, v14 = (x5 <<< ((32 : Int32).toInt64 &&& 63)) ||| (ah_bL h7 q10 x6.toNatClampNeg) → ∃ q15, ah_R h7 5 x4 = some q15 ∧ ∀ v17 : Int64, v17 = v14 / (1000000000 : Int64) → ah_T h7 q15 = 110 ∧ vp_in x6 (ah_N h7 q15) ∧ ∀ h20 : ah_H, h20 = ah_cL h7 q15 (vp_updL (ah_bL h7 q15) x6.toNatClampNeg v17) → ∀ v25 : Int64, v25 = v14 - v14 / (1000000000 : Int64) * (1000000000 : Int64) → ∀ v26 : Int32, v26 = x6 + (-1) → (lp_WH_takeChunk_9 xt_51 K n) x4 v25 v26 h20))
def w_WH_takeChunk (a1 : Nat) (h0 : ah_H) (K : Int64 → ah_H → Prop) : Prop :=
  ah_T h0 a1 = 3 ∧ ∀ v3 : Int32, v3 = (ah_I h0 0 a1) - (1 : Int32) → ∃ n, lp_WH_takeChunk_9 (fun (x27 : Nat) (x28 : Int64) h29 => ah_T h29 x27 = 3 ∧ w_WH_settle x27 (ah_I h29 0 x27) h29 (fun h31 => ah_m h29 h31 → K x28 h31)) K n a1 (0 : Int64) v3 h0
set_option maxHeartbeats 4000000 in
set_option maxRecDepth 100000 in
theorem m_WH_init {l : Launch} (G : zG) (a1 : Nat) (h0 : ah_H) {K : ah_H → Prop} (hst : l.stackTraces = false) (w : w_WH_init a1 h0 K) : Met l y_WH_init (Cond.code y_WH_init b_WH_init 1 none :: zx_T) rm_WH_init (va_Pc [.ref a1] (ah_B G h0)) (va_Qv (fun h9 => K h9 ∧ ah_m h0 h9) (ah_B G) (fun q => G.2.2 ≤ q)) 1 258 (fun q => G.2.2 ≤ q) := by
  refine Met.ofW (cc := b_WH_init) (maxL := 1) (ret := none) (by decide) rfl ?_
  intro p e s m args below meth c s₁ B hml hv
  have hout : ∀ x ∈ c.exceptionTable.toList, False := cx_out B (atoms_spec B.pre _ List.mem_cons_self)
  obtain ⟨rfl, hB⟩ := hv
  have C : cx_C p l s m _ meth c G y_WH_init b_WH_init 1 none "BigDesk$Whole" := ⟨B.exec, B.bytes, B.returns, hml, findClass_of_methodNamed B.named, atoms_spec B.pre, B.notSynchronized, hB.2.2.1, hB.2.2.2, hout, fun z9 => (name_of_methodNamed B.named B.method).1.trans z9, hst⟩
  obtain ⟨hx, hb, hr, hml, hown, hts, hlk, hK, hX, hout, hin, hst⟩ := id C
  have hw : ∀ {w9 : Cond}, w9 ∈ zx_T → w9.before _ s = true := fun h9 => hts _ (List.mem_cons_of_mem _ h9)
  have hW : ah_W G s.heap h0 s.heap [] := ⟨hB.1, hB.2.1, va_S.rf⟩
  have hm : ah_m h0 h0 := ah_m.rf
  have hcl : 0 + 1 ≤ 1 := by decide
  have hsl : 0 + 258 ≤ 258 := by decide
  have hl := lv_entry ([.ref a1]) (n := 1) (Nat.le_of_ble_eq_true rfl)
  rw [lg_entry_eq]
  generalize (lg_sl ([.ref a1]) ++ List.replicate (1 - (lg_sl ([.ref a1])).length) Slot.unset).toArray = ls at hl ⊢
  have hl : lv_has ls 1 [(0, .ref a1)] := hl
  unfold w_WH_init at w
  refine lv_aload_n hx hb d_WH_init_0 rfl (lv_at hl 0 rfl) ?_
  refine W.objInit hx hb hown (hw wd_32) (hw wd_24) (hw wd_25) rfl (by rw [hml]; exact hl.1) rfl d_WH_init_1 (Nat.le_of_ble_eq_true rfl) (Nat.le_of_ble_eq_true rfl) ?_
  refine W.eq (g2 := F0 m 4 ls []) rfl ?_
  refine lv_aload_n hx hb d_WH_init_4 rfl (lv_at hl 0 rfl) ?_
  refine lv_sipush (v := 258) hx hb d_WH_init_5 (by decide) ?_
  refine hb_newa (atype := .long) (t := 110) (N := 258) hx hb (hw wd_55) hK hW 2 rfl (by decide) (by decide) (by decide) (ah_nwJ _ _) (by show _ ≤ 1; omega) (by show _ ≤ 258; omega) d_WH_init_8 (fun q2 H z3 hW => ?_)
  obtain ⟨h4, eh4⟩ : ∃ z9, z9 = ah_new h0 q2 110 258 := ⟨_, rfl⟩
  rw [← eh4] at hW
  have w := w q2 z3 h4 eh4
  have mm5 : ah_m h0 h4 := (ah_m.rf.nw z3).eq eh4
  have hm := hm.tr mm5
  have t6 : ah_T h4 q2 = 110 := by rw [eh4]; exact va_up_self _ _ _
  obtain ⟨t7, w⟩ := w
  refine hb_putF (ci := 2) (C := "BigDesk$Whole") (T := T_WH) (N := 3) hx hb hts (fun w9 h9 => List.mem_cons_of_mem _ (u_WH w9 h9)) t_WH o_WH n_WH hown hK hW t7 rfl (by decide) 0 (by decide) (hw wd_33) (fun _ h9 => h9) rfl (hin rfl) rfl (ty := t_WH 0) (by decide +kernel) (q := (2, 5)) rfl (by decide) (v := .ref q2) rfl rfl (ah_one_R h4 5 a1 (some q2)) d_WH_init_10 (fun H locs h8 eh8 hW => ?_)
  have w := w h8 eh8
  have mm9 : ah_m h4 h8 := ah_m.rf.st (by rw [eh8]; rfl) (by rw [eh8]; rfl)
  have hm := hm.tr mm9
  have t10 := mm9.tg t6 (by decide)
  have t11 := mm9.tg t7 (by decide)
  refine lv_aload_n hx hb d_WH_init_13 rfl (lv_at hl 0 rfl) ?_
  refine lv_iconst (v := 0) hx hb d_WH_init_14 (by decide) ?_
  refine hb_put (ci := 2) (C := "BigDesk$Whole") (T := T_WH) (N := 3) hx hb hts (fun w9 h9 => List.mem_cons_of_mem _ (u_WH w9 h9)) t_WH o_WH n_WH hown hK hW t11 rfl (by decide) 1 (by decide) (hw wd_37) (fun _ h9 => h9) rfl (ty := t_WH 1) (by decide +kernel) (q := (0, 0)) rfl (by decide) (v := .int (0 : Int32)) rfl rfl (ah_one_I h8 0 a1 (0 : Int32)) d_WH_init_15 (fun H locs h12 eh12 hW => ?_)
  have w := w h12 eh12
  have mm13 : ah_m h8 h12 := ah_m.rf.st (by rw [eh12]; rfl) (by rw [eh12]; rfl)
  have hm := hm.tr mm13
  have t14 := mm13.tg t10 (by decide)
  have t15 := mm13.tg t11 (by decide)
  refine lv_aload_n hx hb d_WH_init_18 rfl (lv_at hl 0 rfl) ?_
  refine lv_iconst (v := 0) hx hb d_WH_init_19 (by decide) ?_
  refine hb_put (ci := 2) (C := "BigDesk$Whole") (T := T_WH) (N := 3) hx hb hts (fun w9 h9 => List.mem_cons_of_mem _ (u_WH w9 h9)) t_WH o_WH n_WH hown hK hW t15 rfl (by decide) 2 (by decide) (hw wd_43) (fun _ h9 => h9) rfl (ty := t_WH 2) (by decide +kernel) (q := (0, 1)) rfl (by decide) (v := .int (0 : Int32)) rfl rfl (ah_one_I h12 1 a1 (0 : Int32)) d_WH_init_20 (fun H locs h16 eh16 hW => ?_)
  have w := w h16 eh16
  have mm17 : ah_m h12 h16 := ah_m.rf.st (by rw [eh16]; rfl) (by rw [eh16]; rfl)
  have hm := hm.tr mm17
  have t18 := mm17.tg t14 (by decide)
  have t19 := mm17.tg t15 (by decide)
  exact hb_vret (K := fun h9 => K h9 ∧ ah_m h0 h9) hx hb hr hlk hK hX hW ⟨w, hm⟩ (by omega) (by omega) d_WH_init_23
set_option maxHeartbeats 4000000 in
set_option maxRecDepth 100000 in
theorem tl_WH_settle_2 {p : Program} {l : Launch} {e : Env} {s : State} {m : MethodId} {args : Array Value} {below : List Frame} {meth : Method} {c : Code} {G : zG} (C : cx_C p l s m args meth c G y_WH_settle b_WH_settle 3 none "BigDesk$Whole") {K : ah_H → Prop} {h0 : ah_H} {cells slots : Nat} (hcl : cells + 0 ≤ 0) (hsl : slots + 0 ≤ 0) {xt_23 : Nat → Int32 → ah_H → Prop} (hc_xt_23 : ∀ (z0 : Nat) (z1 : Int32) (hz : ah_H) (H : Heap) (locs : List Loc) (ls : Array Slot), xt_23 z0 z1 hz → ah_m h0 hz → ah_W G s.heap hz H locs → lv_has ls 3 [(0, .ref z0), (1, .int z1)] → W p l e rm_WH_settle s m args below meth c H locs cells slots (MQ below (va_Qv (fun h9 => K h9 ∧ ah_m h0 h9) (ah_B G) (fun q => G.2.2 ≤ q)) args s 0 0 (fun q => G.2.2 ≤ q)) (F0 m 23 ls [])) : ∀ (n : Nat) (x3 : Nat) (x4 : Int32) (x5 : Int32) (h6 : ah_H) (H : Heap) (locs : List Loc) (ls : Array Slot), lp_WH_settle_2 xt_23 K n x3 x4 x5 h6 → ah_m h0 h6 → ah_W G s.heap h6 H locs → lv_has ls 3 [(0, .ref x3), (1, .int x4), (2, .int x5)] → W p l e rm_WH_settle s m args below meth c H locs cells slots (MQ below (va_Qv (fun h9 => K h9 ∧ ah_m h0 h9) (ah_B G) (fun q => G.2.2 ≤ q)) args s 0 0 (fun q => G.2.2 ≤ q)) (F0 m 2 ls []) := by
  obtain ⟨hx, hb, hr, hml, hown, hts, hlk, hK, hX, hout, hin, hst⟩ := id C
  have hw : ∀ {w9 : Cond}, w9 ∈ zx_T → w9.before args s = true := fun h9 => hts _ (List.mem_cons_of_mem _ h9)
  intro n
  induction n with
  | zero =>
    intro x3 x4 x5 h6 H locs ls w
    exact absurd w (by intro z9; exact z9)
  | succ n ih =>
    intro x3 x4 x5 h6 H locs ls w hm hW hl
    unfold lp_WH_settle_2 at w
    refine lv_iload_n hx hb d_WH_settle_2 rfl (lv_at hl 2 rfl) ?_
    refine lv_aload_n hx hb d_WH_settle_3 rfl (lv_at hl 0 rfl) ?_
    obtain ⟨t7, w⟩ := w
    refine hb_get (ci := 2) (C := "BigDesk$Whole") (T := T_WH) (N := 3) hx hb hts (fun w9 h9 => List.mem_cons_of_mem _ (u_WH w9 h9)) hown hK hW t7 rfl (by decide) 1 (by decide) (hw wd_37) (fun _ h9 => h9) (q := (0, 0)) rfl (v := .int (ah_I h6 0 x3)) rfl d_WH_settle_4 ?_
    refine lv_icmp_ge (tgt := 23) hx hb d_WH_settle_7 (by decide) (fun c8 => ?_) (fun c8 => ?_)
    · have w := w.1 c8
      exact hc_xt_23 x3 x4 h6 _ _ _ w hm hW (lv_sub hl [0, 1] rfl)
    · have w := w.2 c8
      refine lv_aload_n hx hb d_WH_settle_10 rfl (lv_at hl 0 rfl) ?_
      obtain ⟨q9, e10, w⟩ := w
      refine hb_get (ci := 2) (C := "BigDesk$Whole") (T := T_WH) (N := 3) hx hb hts (fun w9 h9 => List.mem_cons_of_mem _ (u_WH w9 h9)) hown hK hW t7 rfl (by decide) 0 (by decide) (hw wd_33) (fun _ h9 => h9) (q := (2, 5)) rfl (v := .ref q9) (ah_f_R e10) d_WH_settle_11 ?_
      refine lv_iload_n hx hb d_WH_settle_14 rfl (lv_at hl 2 rfl) ?_
      refine lv_lconst (v := 0) hx hb d_WH_settle_15 (by decide) ?_
      obtain ⟨t11, w⟩ := w
      obtain ⟨i12, w⟩ := w
      refine hb_last hx hb hK hW t11 (by decide) (by decide) 2 rfl i12 d_WH_settle_16 (fun H locs h13 eh13 hW => ?_)
      have w := w h13 eh13
      have mm14 : ah_m h6 h13 := ah_m.rf.st (by rw [eh13]; rfl) (by rw [eh13]; rfl)
      have hm := hm.tr mm14
      have t15 := mm14.tg t7 (by decide)
      have t16 := mm14.tg t11 (by decide)
      obtain ⟨v17, ev17⟩ : ∃ y9 : Int32, y9 = x5 + 1 := ⟨_, rfl⟩
      have w := w v17 ev17
      refine lv_iinc (v := v17) (lv' := [(2, .int v17), (0, .ref x3), (1, .int x4)]) hx hb d_WH_settle_17 hl (k := 2) rfl (by rw [ev17]; rfl) (by decide) rfl (fun ls hl => ?_)
      refine lv_goto (tgt := 2) hx hb d_WH_settle_20 (by decide) ?_
      exact ih x3 x4 v17 h13 _ _ _ w hm hW (lv_sub hl [1, 2, 0] rfl)
set_option maxHeartbeats 4000000 in
set_option maxRecDepth 100000 in
theorem tl_WH_settle_28 {p : Program} {l : Launch} {e : Env} {s : State} {m : MethodId} {args : Array Value} {below : List Frame} {meth : Method} {c : Code} {G : zG} (C : cx_C p l s m args meth c G y_WH_settle b_WH_settle 3 none "BigDesk$Whole") {K : ah_H → Prop} {h0 : ah_H} {cells slots : Nat} (hcl : cells + 0 ≤ 0) (hsl : slots + 0 ≤ 0) {xt_64 : ah_H → Prop} (hc_xt_64 : ∀ (hz : ah_H) (H : Heap) (locs : List Loc) (ls : Array Slot), xt_64 hz → ah_m h0 hz → ah_W G s.heap hz H locs → lv_has ls 3 [] → W p l e rm_WH_settle s m args below meth c H locs cells slots (MQ below (va_Qv (fun h9 => K h9 ∧ ah_m h0 h9) (ah_B G) (fun q => G.2.2 ≤ q)) args s 0 0 (fun q => G.2.2 ≤ q)) (F0 m 64 ls [])) : ∀ (n : Nat) (x25 : Nat) (h26 : ah_H) (H : Heap) (locs : List Loc) (ls : Array Slot), lp_WH_settle_28 xt_64 K n x25 h26 → ah_m h0 h26 → ah_W G s.heap h26 H locs → lv_has ls 3 [(0, .ref x25)] → W p l e rm_WH_settle s m args below meth c H locs cells slots (MQ below (va_Qv (fun h9 => K h9 ∧ ah_m h0 h9) (ah_B G) (fun q => G.2.2 ≤ q)) args s 0 0 (fun q => G.2.2 ≤ q)) (F0 m 28 ls []) := by
  obtain ⟨hx, hb, hr, hml, hown, hts, hlk, hK, hX, hout, hin, hst⟩ := id C
  have hw : ∀ {w9 : Cond}, w9 ∈ zx_T → w9.before args s = true := fun h9 => hts _ (List.mem_cons_of_mem _ h9)
  intro n
  induction n with
  | zero =>
    intro x25 h26 H locs ls w
    exact absurd w (by intro z9; exact z9)
  | succ n ih =>
    intro x25 h26 H locs ls w hm hW hl
    unfold lp_WH_settle_28 at w
    refine lv_aload_n hx hb d_WH_settle_28 rfl (lv_at hl 0 rfl) ?_
    obtain ⟨t27, w⟩ := w
    refine hb_get (ci := 2) (C := "BigDesk$Whole") (T := T_WH) (N := 3) hx hb hts (fun w9 h9 => List.mem_cons_of_mem _ (u_WH w9 h9)) hown hK hW t27 rfl (by decide) 1 (by decide) (hw wd_37) (fun _ h9 => h9) (q := (0, 0)) rfl (v := .int (ah_I h26 0 x25)) rfl d_WH_settle_29 ?_
    refine lv_if_le (tgt := 64) hx hb d_WH_settle_32 (by decide) (fun c28 => ?_) (fun c28 => ?_)
    · have w := w.1 c28
      exact hc_xt_64  h26 _ _ _ w hm hW (lv_sub hl [] rfl)
    · have w := w.2 c28
      refine lv_aload_n hx hb d_WH_settle_35 rfl (lv_at hl 0 rfl) ?_
      obtain ⟨q29, e30, w⟩ := w
      refine hb_get (ci := 2) (C := "BigDesk$Whole") (T := T_WH) (N := 3) hx hb hts (fun w9 h9 => List.mem_cons_of_mem _ (u_WH w9 h9)) hown hK hW t27 rfl (by decide) 0 (by decide) (hw wd_33) (fun _ h9 => h9) (q := (2, 5)) rfl (v := .ref q29) (ah_f_R e30) d_WH_settle_36 ?_
      refine lv_aload_n hx hb d_WH_settle_39 rfl (lv_at hl 0 rfl) ?_
      refine hb_get (ci := 2) (C := "BigDesk$Whole") (T := T_WH) (N := 3) hx hb hts (fun w9 h9 => List.mem_cons_of_mem _ (u_WH w9 h9)) hown hK hW t27 rfl (by decide) 1 (by decide) (hw wd_37) (fun _ h9 => h9) (q := (0, 0)) rfl (v := .int (ah_I h26 0 x25)) rfl d_WH_settle_40 ?_
      refine lv_iconst (v := 1) hx hb d_WH_settle_43 (by decide) ?_
      refine lv_isub hx hb d_WH_settle_44 ?_
      obtain ⟨t31, w⟩ := w
      obtain ⟨i32, w⟩ := w
      refine hb_lald hx hb hK hW t31 (by decide) (by decide) 2 rfl i32 d_WH_settle_45 ?_
      refine lv_lconst (v := 0) hx hb d_WH_settle_46 (by decide) ?_
      refine hb_lcmp_ne (tgt := 64) hx hb d_WH_settle_47 d_WH_settle_48 (by decide) (fun c33 => ?_) (fun c33 => ?_)
      · have w := w.1 c33
        exact hc_xt_64  h26 _ _ _ w hm hW (lv_sub hl [] rfl)
      · have w := w.2 c33
        refine lv_aload_n hx hb d_WH_settle_51 rfl (lv_at hl 0 rfl) ?_
        refine lv_dup hx hb d_WH_settle_52 rfl ?_
        refine hb_get (ci := 2) (C := "BigDesk$Whole") (T := T_WH) (N := 3) hx hb hts (fun w9 h9 => List.mem_cons_of_mem _ (u_WH w9 h9)) hown hK hW t27 rfl (by decide) 1 (by decide) (hw wd_37) (fun _ h9 => h9) (q := (0, 0)) rfl (v := .int (ah_I h26 0 x25)) rfl d_WH_settle_53 ?_
        refine lv_iconst (v := 1) hx hb d_WH_settle_56 (by decide) ?_
        refine lv_isub hx hb d_WH_settle_57 ?_
        refine lv_topi (fun v34 ev34 => ?_)
        have w := w v34 ev34
        refine hb_put (ci := 2) (C := "BigDesk$Whole") (T := T_WH) (N := 3) hx hb hts (fun w9 h9 => List.mem_cons_of_mem _ (u_WH w9 h9)) t_WH o_WH n_WH hown hK hW t27 rfl (by decide) 1 (by decide) (hw wd_37) (fun _ h9 => h9) rfl (ty := t_WH 1) (by decide +kernel) (q := (0, 0)) rfl (by decide) (v := .int v34) rfl rfl (ah_one_I h26 0 x25 v34) d_WH_settle_58 (fun H locs h35 eh35 hW => ?_)
        have w := w h35 eh35
        have mm36 : ah_m h26 h35 := ah_m.rf.st (by rw [eh35]; rfl) (by rw [eh35]; rfl)
        have hm := hm.tr mm36
        have t37 := mm36.tg t27 (by decide)
        have t38 := mm36.tg t31 (by decide)
        refine lv_goto (tgt := 28) hx hb d_WH_settle_61 (by decide) ?_
        exact ih x25 h35 _ _ _ w hm hW (lv_sub hl [0] rfl)
set_option maxHeartbeats 4000000 in
set_option maxRecDepth 100000 in
theorem tb_WH_settle_64 {p : Program} {l : Launch} {e : Env} {s : State} {m : MethodId} {args : Array Value} {below : List Frame} {meth : Method} {c : Code} {G : zG} (C : cx_C p l s m args meth c G y_WH_settle b_WH_settle 3 none "BigDesk$Whole") {K : ah_H → Prop} {h0 : ah_H} {cells slots : Nat} (hcl : cells + 0 ≤ 0) (hsl : slots + 0 ≤ 0)   (h40 : ah_H) (H : Heap) (locs : List Loc) (ls : Array Slot) (w : bk_WH_settle_64 K h40) (hm : ah_m h0 h40) (hW : ah_W G s.heap h40 H locs) (hl : lv_has ls 3 []) : W p l e rm_WH_settle s m args below meth c H locs cells slots (MQ below (va_Qv (fun h9 => K h9 ∧ ah_m h0 h9) (ah_B G) (fun q => G.2.2 ≤ q)) args s 0 0 (fun q => G.2.2 ≤ q)) (F0 m 64 ls []) := by
  unfold bk_WH_settle_64 at w
  obtain ⟨hx, hb, hr, hml, hown, hts, hlk, hK, hX, hout, hin, hst⟩ := id C
  have hw : ∀ {w9 : Cond}, w9 ∈ zx_T → w9.before args s = true := fun h9 => hts _ (List.mem_cons_of_mem _ h9)
  exact hb_vret (K := fun h9 => K h9 ∧ ah_m h0 h9) hx hb hr hlk hK hX hW ⟨w, hm⟩ (by omega) (by omega) d_WH_settle_64
set_option maxHeartbeats 4000000 in
set_option maxRecDepth 100000 in
theorem m_WH_settle {l : Launch} (G : zG) (a1 : Nat) (a2 : Int32) (h0 : ah_H) {K : ah_H → Prop} (hst : l.stackTraces = false) (w : w_WH_settle a1 a2 h0 K) : Met l y_WH_settle (Cond.code y_WH_settle b_WH_settle 3 none :: zx_T) rm_WH_settle (va_Pc [.ref a1, .int a2] (ah_B G h0)) (va_Qv (fun h9 => K h9 ∧ ah_m h0 h9) (ah_B G) (fun q => G.2.2 ≤ q)) 0 0 (fun q => G.2.2 ≤ q) := by
  refine Met.ofW (cc := b_WH_settle) (maxL := 3) (ret := none) (by decide) rfl ?_
  intro p e s m args below meth c s₁ B hml hv
  have hout : ∀ x ∈ c.exceptionTable.toList, False := cx_out B (atoms_spec B.pre _ List.mem_cons_self)
  obtain ⟨rfl, hB⟩ := hv
  have C : cx_C p l s m _ meth c G y_WH_settle b_WH_settle 3 none "BigDesk$Whole" := ⟨B.exec, B.bytes, B.returns, hml, findClass_of_methodNamed B.named, atoms_spec B.pre, B.notSynchronized, hB.2.2.1, hB.2.2.2, hout, fun z9 => (name_of_methodNamed B.named B.method).1.trans z9, hst⟩
  obtain ⟨hx, hb, hr, hml, hown, hts, hlk, hK, hX, hout, hin, hst⟩ := id C
  have hw : ∀ {w9 : Cond}, w9 ∈ zx_T → w9.before _ s = true := fun h9 => hts _ (List.mem_cons_of_mem _ h9)
  have hW : ah_W G s.heap h0 s.heap [] := ⟨hB.1, hB.2.1, va_S.rf⟩
  have hm : ah_m h0 h0 := ah_m.rf
  have hcl : 0 + 0 ≤ 0 := by decide
  have hsl : 0 + 0 ≤ 0 := by decide
  have hl := lv_entry ([.ref a1, .int a2]) (n := 3) (Nat.le_of_ble_eq_true rfl)
  rw [lg_entry_eq]
  generalize (lg_sl ([.ref a1, .int a2]) ++ List.replicate (3 - (lg_sl ([.ref a1, .int a2])).length) Slot.unset).toArray = ls at hl ⊢
  have hl : lv_has ls 3 [(0, .ref a1), (1, .int a2)] := hl
  unfold w_WH_settle at w
  refine lv_iload_n hx hb d_WH_settle_0 rfl (lv_at hl 1 rfl) ?_
  refine lv_istore_n (lv' := [(2, .int a2), (0, .ref a1), (1, .int a2)]) hx hb d_WH_settle_1 rfl hl (by decide) rfl (fun ls hl => ?_)
  obtain ⟨k42, w⟩ := w
  refine tl_WH_settle_2 C hcl hsl (fun x18 x19 h20 H locs ls w hm hW hl => ?_) k42 a1 a2 a2 h0 _ _ _ w hm hW (lv_sub hl [1, 2, 0] rfl)
  · refine lv_aload_n hx hb d_WH_settle_23 rfl (lv_at hl 0 rfl) ?_
    refine lv_iload_n hx hb d_WH_settle_24 rfl (lv_at hl 1 rfl) ?_
    obtain ⟨t21, w⟩ := w
    refine hb_put (ci := 2) (C := "BigDesk$Whole") (T := T_WH) (N := 3) hx hb hts (fun w9 h9 => List.mem_cons_of_mem _ (u_WH w9 h9)) t_WH o_WH n_WH hown hK hW t21 rfl (by decide) 1 (by decide) (hw wd_37) (fun _ h9 => h9) rfl (ty := t_WH 1) (by decide +kernel) (q := (0, 0)) rfl (by decide) (v := .int x19) rfl rfl (ah_one_I h20 0 x18 x19) d_WH_settle_25 (fun H locs h22 eh22 hW => ?_)
    have w := w h22 eh22
    have mm23 : ah_m h20 h22 := ah_m.rf.st (by rw [eh22]; rfl) (by rw [eh22]; rfl)
    have hm := hm.tr mm23
    have t24 := mm23.tg t21 (by decide)
    obtain ⟨k41, w⟩ := w
    refine tl_WH_settle_28 C hcl hsl (fun  h39 H locs ls w hm hW hl => ?_) k41 x18 h22 _ _ _ w hm hW (lv_sub hl [0] rfl)
    · exact tb_WH_settle_64 C (by omega) (by omega)   h39 _ _ _ w hm hW (lv_sub hl [] rfl)
set_option maxHeartbeats 4000000 in
set_option maxRecDepth 100000 in
theorem tb_WH_markSign_17 {p : Program} {l : Launch} {e : Env} {s : State} {m : MethodId} {args : Array Value} {below : List Frame} {meth : Method} {c : Code} {G : zG} (C : cx_C p l s m args meth c G y_WH_markSign b_WH_markSign 2 none "BigDesk$Whole") {K : ah_H → Prop} {h0 : ah_H} {cells slots : Nat} (hcl : cells + 0 ≤ 0) (hsl : slots + 0 ≤ 0)  (s6 : Int32) (s7 : Nat) (h8 : ah_H) (H : Heap) (locs : List Loc) (ls : Array Slot) (w : bk_WH_markSign_17 K s6 s7 h8) (hm : ah_m h0 h8) (hW : ah_W G s.heap h8 H locs) (hl : lv_has ls 2 []) : W p l e rm_WH_markSign s m args below meth c H locs cells slots (MQ below (va_Qv (fun h9 => K h9 ∧ ah_m h0 h9) (ah_B G) (fun q => G.2.2 ≤ q)) args s 0 0 (fun q => G.2.2 ≤ q)) (F0 m 17 ls [.int s6, .ref s7]) := by
  unfold bk_WH_markSign_17 at w
  obtain ⟨hx, hb, hr, hml, hown, hts, hlk, hK, hX, hout, hin, hst⟩ := id C
  have hw : ∀ {w9 : Cond}, w9 ∈ zx_T → w9.before args s = true := fun h9 => hts _ (List.mem_cons_of_mem _ h9)
  obtain ⟨t9, w⟩ := w
  obtain ⟨z10, w⟩ := w
  refine hb_put (ci := 2) (C := "BigDesk$Whole") (T := T_WH) (N := 3) hx hb hts (fun w9 h9 => List.mem_cons_of_mem _ (u_WH w9 h9)) t_WH o_WH n_WH hown hK hW t9 rfl (by decide) 2 (by decide) (hw wd_43) (fun _ h9 => h9) rfl (ty := t_WH 2) (by decide +kernel) (q := (0, 1)) rfl (by decide) (v := .int s6) (zb_n z10) (zb_f z10) (ah_one_I h8 1 s7 s6) d_WH_markSign_17 (fun H locs h11 eh11 hW => ?_)
  have w := w h11 eh11
  have mm12 : ah_m h8 h11 := ah_m.rf.st (by rw [eh11]; rfl) (by rw [eh11]; rfl)
  have hm := hm.tr mm12
  have t13 := mm12.tg t9 (by decide)
  exact hb_vret (K := fun h9 => K h9 ∧ ah_m h0 h9) hx hb hr hlk hK hX hW ⟨w, hm⟩ (by omega) (by omega) d_WH_markSign_20
set_option maxHeartbeats 4000000 in
set_option maxRecDepth 100000 in
theorem tb_WH_markSign_16 {p : Program} {l : Launch} {e : Env} {s : State} {m : MethodId} {args : Array Value} {below : List Frame} {meth : Method} {c : Code} {G : zG} (C : cx_C p l s m args meth c G y_WH_markSign b_WH_markSign 2 none "BigDesk$Whole") {K : ah_H → Prop} {h0 : ah_H} {cells slots : Nat} (hcl : cells + 0 ≤ 0) (hsl : slots + 0 ≤ 0)  (s4 : Nat) (h5 : ah_H) (H : Heap) (locs : List Loc) (ls : Array Slot) (w : bk_WH_markSign_16 K s4 h5) (hm : ah_m h0 h5) (hW : ah_W G s.heap h5 H locs) (hl : lv_has ls 2 []) : W p l e rm_WH_markSign s m args below meth c H locs cells slots (MQ below (va_Qv (fun h9 => K h9 ∧ ah_m h0 h9) (ah_B G) (fun q => G.2.2 ≤ q)) args s 0 0 (fun q => G.2.2 ≤ q)) (F0 m 16 ls [.ref s4]) := by
  unfold bk_WH_markSign_16 at w
  obtain ⟨hx, hb, hr, hml, hown, hts, hlk, hK, hX, hout, hin, hst⟩ := id C
  have hw : ∀ {w9 : Cond}, w9 ∈ zx_T → w9.before args s = true := fun h9 => hts _ (List.mem_cons_of_mem _ h9)
  refine lv_iconst (v := 0) hx hb d_WH_markSign_16 (by decide) ?_
  exact tb_WH_markSign_17 C (by omega) (by omega)  (0 : Int32) s4 h5 _ _ _ w hm hW (lv_sub hl [] rfl)
set_option maxHeartbeats 4000000 in
set_option maxRecDepth 100000 in
theorem m_WH_markSign {l : Launch} (G : zG) (a1 : Nat) (a2 : Int32) (h0 : ah_H) {K : ah_H → Prop} (hst : l.stackTraces = false) (w : w_WH_markSign a1 a2 h0 K) : Met l y_WH_markSign (Cond.code y_WH_markSign b_WH_markSign 2 none :: zx_T) rm_WH_markSign (va_Pc [.ref a1, .int a2] (ah_B G h0)) (va_Qv (fun h9 => K h9 ∧ ah_m h0 h9) (ah_B G) (fun q => G.2.2 ≤ q)) 0 0 (fun q => G.2.2 ≤ q) := by
  refine Met.ofW (cc := b_WH_markSign) (maxL := 2) (ret := none) (by decide) rfl ?_
  intro p e s m args below meth c s₁ B hml hv
  have hout : ∀ x ∈ c.exceptionTable.toList, False := cx_out B (atoms_spec B.pre _ List.mem_cons_self)
  obtain ⟨rfl, hB⟩ := hv
  have C : cx_C p l s m _ meth c G y_WH_markSign b_WH_markSign 2 none "BigDesk$Whole" := ⟨B.exec, B.bytes, B.returns, hml, findClass_of_methodNamed B.named, atoms_spec B.pre, B.notSynchronized, hB.2.2.1, hB.2.2.2, hout, fun z9 => (name_of_methodNamed B.named B.method).1.trans z9, hst⟩
  obtain ⟨hx, hb, hr, hml, hown, hts, hlk, hK, hX, hout, hin, hst⟩ := id C
  have hw : ∀ {w9 : Cond}, w9 ∈ zx_T → w9.before _ s = true := fun h9 => hts _ (List.mem_cons_of_mem _ h9)
  have hW : ah_W G s.heap h0 s.heap [] := ⟨hB.1, hB.2.1, va_S.rf⟩
  have hm : ah_m h0 h0 := ah_m.rf
  have hcl : 0 + 0 ≤ 0 := by decide
  have hsl : 0 + 0 ≤ 0 := by decide
  have hl := lv_entry ([.ref a1, .int a2]) (n := 2) (Nat.le_of_ble_eq_true rfl)
  rw [lg_entry_eq]
  generalize (lg_sl ([.ref a1, .int a2]) ++ List.replicate (2 - (lg_sl ([.ref a1, .int a2])).length) Slot.unset).toArray = ls at hl ⊢
  have hl : lv_has ls 2 [(0, .ref a1), (1, .int a2)] := hl
  unfold w_WH_markSign at w
  refine lv_aload_n hx hb d_WH_markSign_0 rfl (lv_at hl 0 rfl) ?_
  refine lv_iload_n hx hb d_WH_markSign_1 rfl (lv_at hl 1 rfl) ?_
  refine lv_if_eq (tgt := 16) hx hb d_WH_markSign_2 (by decide) (fun c3 => ?_) (fun c3 => ?_)
  · have w := w.1 c3
    exact tb_WH_markSign_16 C (by omega) (by omega)  a1 h0 _ _ _ w hm hW (lv_sub hl [] rfl)
  · have w := w.2 c3
    refine lv_aload_n hx hb d_WH_markSign_5 rfl (lv_at hl 0 rfl) ?_
    obtain ⟨t14, w⟩ := w
    refine hb_get (ci := 2) (C := "BigDesk$Whole") (T := T_WH) (N := 3) hx hb hts (fun w9 h9 => List.mem_cons_of_mem _ (u_WH w9 h9)) hown hK hW t14 rfl (by decide) 1 (by decide) (hw wd_37) (fun _ h9 => h9) (q := (0, 0)) rfl (v := .int (ah_I h0 0 a1)) rfl d_WH_markSign_6 ?_
    refine lv_if_le (tgt := 16) hx hb d_WH_markSign_9 (by decide) (fun c15 => ?_) (fun c15 => ?_)
    · have w := w.1 c15
      exact tb_WH_markSign_16 C (by omega) (by omega)  a1 h0 _ _ _ w hm hW (lv_sub hl [] rfl)
    · have w := w.2 c15
      refine lv_iconst (v := 1) hx hb d_WH_markSign_12 (by decide) ?_
      refine lv_goto (tgt := 17) hx hb d_WH_markSign_13 (by decide) ?_
      exact tb_WH_markSign_17 C (by omega) (by omega)  (1 : Int32) a1 h0 _ _ _ w hm hW (lv_sub hl [] rfl)
set_option maxHeartbeats 4000000 in
set_option maxRecDepth 100000 in
theorem tb_WH_becomeLong_51 {p : Program} {l : Launch} {e : Env} {s : State} {m : MethodId} {args : Array Value} {below : List Frame} {meth : Method} {c : Code} {G : zG} (C : cx_C p l s m args meth c G y_WH_becomeLong b_WH_becomeLong 5 none "BigDesk$Whole") {K : ah_H → Prop} {h0 : ah_H} {cells slots : Nat} (hcl : cells + 0 ≤ 0) (hsl : slots + 0 ≤ 0)  (s34 : Int32) (s35 : Nat) (h36 : ah_H) (H : Heap) (locs : List Loc) (ls : Array Slot) (w : bk_WH_becomeLong_51 K s34 s35 h36) (hm : ah_m h0 h36) (hW : ah_W G s.heap h36 H locs) (hl : lv_has ls 5 []) : W p l e rm_WH_becomeLong s m args below meth c H locs cells slots (MQ below (va_Qv (fun h9 => K h9 ∧ ah_m h0 h9) (ah_B G) (fun q => G.2.2 ≤ q)) args s 0 0 (fun q => G.2.2 ≤ q)) (F0 m 51 ls [.int s34, .ref s35]) := by
  unfold bk_WH_becomeLong_51 at w
  obtain ⟨hx, hb, hr, hml, hown, hts, hlk, hK, hX, hout, hin, hst⟩ := id C
  have hw : ∀ {w9 : Cond}, w9 ∈ zx_T → w9.before args s = true := fun h9 => hts _ (List.mem_cons_of_mem _ h9)
  obtain ⟨t37, w⟩ := w
  refine hb_callv (va_runV (As := [.int s34]) (rest := []) ⟨hx, hb, hml, hown, hts⟩ (m_WH_markSign G s35 s34 h36 hst w) (cwV 1 hts (zx_gV wd_222 wd_223 wd_224 wd_2 wd_225) rfl rfl rfl (by decide +kernel) ⟨Nat.le_of_ble_eq_true rfl, Nat.le_of_ble_eq_true rfl⟩) (hb_preV hK hX hW t37 (by decide) rfl) rfl rfl hl.1 rfl (lv_room (Nat.le_of_ble_eq_true rfl)) d_WH_becomeLong_51 ⟨(by show _ ≤ 0; omega), (by show _ ≤ 0; omega)⟩) hW (fun h38 H locs hk hW => ?_)
  obtain ⟨w, mm39⟩ := hk
  have w := w mm39
  have hm := hm.tr mm39
  have t40 := mm39.tg t37 (by decide)
  exact hb_vret (K := fun h9 => K h9 ∧ ah_m h0 h9) hx hb hr hlk hK hX hW ⟨w, hm⟩ (by omega) (by omega) d_WH_becomeLong_54
set_option maxHeartbeats 4000000 in
set_option maxRecDepth 100000 in
theorem tb_WH_becomeLong_12 {p : Program} {l : Launch} {e : Env} {s : State} {m : MethodId} {args : Array Value} {below : List Frame} {meth : Method} {c : Code} {G : zG} (C : cx_C p l s m args meth c G y_WH_becomeLong b_WH_becomeLong 5 none "BigDesk$Whole") {K : ah_H → Prop} {h0 : ah_H} {cells slots : Nat} (hcl : cells + 0 ≤ 0) (hsl : slots + 0 ≤ 0)  (x4 : Nat) (x5 : Int64) (s6 : Int64) (h7 : ah_H) (H : Heap) (locs : List Loc) (ls : Array Slot) (w : bk_WH_becomeLong_12 K x4 x5 s6 h7) (hm : ah_m h0 h7) (hW : ah_W G s.heap h7 H locs) (hl : lv_has ls 5 [(0, .ref x4), (1, .long x5)]) : W p l e rm_WH_becomeLong s m args below meth c H locs cells slots (MQ below (va_Qv (fun h9 => K h9 ∧ ah_m h0 h9) (ah_B G) (fun q => G.2.2 ≤ q)) args s 0 0 (fun q => G.2.2 ≤ q)) (F0 m 12 ls [.long s6]) := by
  unfold bk_WH_becomeLong_12 at w
  obtain ⟨hx, hb, hr, hml, hown, hts, hlk, hK, hX, hout, hin, hst⟩ := id C
  have hw : ∀ {w9 : Cond}, w9 ∈ zx_T → w9.before args s = true := fun h9 => hts _ (List.mem_cons_of_mem _ h9)
  refine lv_lstore_n (lv' := [(3, .long s6), (0, .ref x4), (1, .long x5)]) hx hb d_WH_becomeLong_12 rfl hl (by decide) rfl (fun ls hl => ?_)
  refine lv_aload_n hx hb d_WH_becomeLong_13 rfl (lv_at hl 1 rfl) ?_
  obtain ⟨t8, w⟩ := w
  obtain ⟨q9, e10, w⟩ := w
  refine hb_get (ci := 2) (C := "BigDesk$Whole") (T := T_WH) (N := 3) hx hb hts (fun w9 h9 => List.mem_cons_of_mem _ (u_WH w9 h9)) hown hK hW t8 rfl (by decide) 0 (by decide) (hw wd_33) (fun _ h9 => h9) (q := (2, 5)) rfl (v := .ref q9) (ah_f_R e10) d_WH_becomeLong_14 ?_
  refine lv_iconst (v := 0) hx hb d_WH_becomeLong_17 (by decide) ?_
  refine lv_lload_n hx hb d_WH_becomeLong_18 rfl (lv_at hl 0 rfl) ?_
  refine lv_ldc2 (v := 4294967295) hx hb hown (hw wd_217) d_WH_becomeLong_19 ?_
  refine lv_land hx hb d_WH_becomeLong_22 ?_
  refine lv_topl (fun v11 ev11 => ?_)
  have w := w v11 ev11
  obtain ⟨t12, w⟩ := w
  obtain ⟨i13, w⟩ := w
  refine hb_last hx hb hK hW t12 (by decide) (by decide) 2 rfl i13 d_WH_becomeLong_23 (fun H locs h14 eh14 hW => ?_)
  have w := w h14 eh14
  have mm15 : ah_m h7 h14 := ah_m.rf.st (by rw [eh14]; rfl) (by rw [eh14]; rfl)
  have hm := hm.tr mm15
  have t16 := mm15.tg t8 (by decide)
  have t17 := mm15.tg t12 (by decide)
  refine lv_aload_n hx hb d_WH_becomeLong_24 rfl (lv_at hl 1 rfl) ?_
  obtain ⟨q18, e19, w⟩ := w
  refine hb_get (ci := 2) (C := "BigDesk$Whole") (T := T_WH) (N := 3) hx hb hts (fun w9 h9 => List.mem_cons_of_mem _ (u_WH w9 h9)) hown hK hW t16 rfl (by decide) 0 (by decide) (hw wd_33) (fun _ h9 => h9) (q := (2, 5)) rfl (v := .ref q18) (ah_f_R e19) d_WH_becomeLong_25 ?_
  refine lv_iconst (v := 1) hx hb d_WH_becomeLong_28 (by decide) ?_
  refine lv_lload_n hx hb d_WH_becomeLong_29 rfl (lv_at hl 0 rfl) ?_
  refine lv_bipush (v := 32) hx hb d_WH_becomeLong_30 (by decide) ?_
  refine lv_lushr hx hb d_WH_becomeLong_32 rfl ?_
  refine lv_topl (fun v20 ev20 => ?_)
  have w := w v20 ev20
  obtain ⟨t21, w⟩ := w
  obtain ⟨i22, w⟩ := w
  refine hb_last hx hb hK hW t21 (by decide) (by decide) 2 rfl i22 d_WH_becomeLong_33 (fun H locs h23 eh23 hW => ?_)
  have w := w h23 eh23
  have mm24 : ah_m h14 h23 := ah_m.rf.st (by rw [eh23]; rfl) (by rw [eh23]; rfl)
  have hm := hm.tr mm24
  have t25 := mm24.tg t16 (by decide)
  have t26 := mm24.tg t17 (by decide)
  have t27 := mm24.tg t21 (by decide)
  refine lv_aload_n hx hb d_WH_becomeLong_34 rfl (lv_at hl 1 rfl) ?_
  refine lv_iconst (v := 2) hx hb d_WH_becomeLong_35 (by decide) ?_
  refine hb_callv (va_runV (As := [.int (2 : Int32)]) (rest := []) ⟨hx, hb, hml, hown, hts⟩ (m_WH_settle G x4 (2 : Int32) h23 hst w) (cwV 1 hts (zx_gV wd_218 wd_219 wd_220 wd_2 wd_221) rfl rfl rfl (by decide +kernel) ⟨Nat.le_of_ble_eq_true rfl, Nat.le_of_ble_eq_true rfl⟩) (hb_preV hK hX hW t25 (by decide) rfl) rfl rfl hl.1 rfl (lv_room (Nat.le_of_ble_eq_true rfl)) d_WH_becomeLong_36 ⟨(by show _ ≤ 0; omega), (by show _ ≤ 0; omega)⟩) hW (fun h28 H locs hk hW => ?_)
  obtain ⟨w, mm29⟩ := hk
  have w := w mm29
  have hm := hm.tr mm29
  have t30 := mm29.tg t25 (by decide)
  have t31 := mm29.tg t26 (by decide)
  have t32 := mm29.tg t27 (by decide)
  refine lv_aload_n hx hb d_WH_becomeLong_39 rfl (lv_at hl 1 rfl) ?_
  refine lv_lload_n hx hb d_WH_becomeLong_40 rfl (lv_at hl 2 rfl) ?_
  refine lv_lconst (v := 0) hx hb d_WH_becomeLong_41 (by decide) ?_
  refine hb_lcmp_ge (tgt := 50) hx hb d_WH_becomeLong_42 d_WH_becomeLong_43 (by decide) (fun c33 => ?_) (fun c33 => ?_)
  · have w := w.1 c33
    refine lv_iconst (v := 0) hx hb d_WH_becomeLong_50 (by decide) ?_
    exact tb_WH_becomeLong_51 C (by omega) (by omega)  (0 : Int32) x4 h28 _ _ _ w hm hW (lv_sub hl [] rfl)
  · have w := w.2 c33
    refine lv_iconst (v := 1) hx hb d_WH_becomeLong_46 (by decide) ?_
    refine lv_goto (tgt := 51) hx hb d_WH_becomeLong_47 (by decide) ?_
    exact tb_WH_becomeLong_51 C (by omega) (by omega)  (1 : Int32) x4 h28 _ _ _ w hm hW (lv_sub hl [] rfl)
set_option maxHeartbeats 4000000 in
set_option maxRecDepth 100000 in
theorem m_WH_becomeLong {l : Launch} (G : zG) (a1 : Nat) (a2 : Int64) (h0 : ah_H) {K : ah_H → Prop} (hst : l.stackTraces = false) (w : w_WH_becomeLong a1 a2 h0 K) : Met l y_WH_becomeLong (Cond.code y_WH_becomeLong b_WH_becomeLong 5 none :: zx_T) rm_WH_becomeLong (va_Pc [.ref a1, .long a2] (ah_B G h0)) (va_Qv (fun h9 => K h9 ∧ ah_m h0 h9) (ah_B G) (fun q => G.2.2 ≤ q)) 0 0 (fun q => G.2.2 ≤ q) := by
  refine Met.ofW (cc := b_WH_becomeLong) (maxL := 5) (ret := none) (by decide) rfl ?_
  intro p e s m args below meth c s₁ B hml hv
  have hout : ∀ x ∈ c.exceptionTable.toList, False := cx_out B (atoms_spec B.pre _ List.mem_cons_self)
  obtain ⟨rfl, hB⟩ := hv
  have C : cx_C p l s m _ meth c G y_WH_becomeLong b_WH_becomeLong 5 none "BigDesk$Whole" := ⟨B.exec, B.bytes, B.returns, hml, findClass_of_methodNamed B.named, atoms_spec B.pre, B.notSynchronized, hB.2.2.1, hB.2.2.2, hout, fun z9 => (name_of_methodNamed B.named B.method).1.trans z9, hst⟩
  obtain ⟨hx, hb, hr, hml, hown, hts, hlk, hK, hX, hout, hin, hst⟩ := id C
  have hw : ∀ {w9 : Cond}, w9 ∈ zx_T → w9.before _ s = true := fun h9 => hts _ (List.mem_cons_of_mem _ h9)
  have hW : ah_W G s.heap h0 s.heap [] := ⟨hB.1, hB.2.1, va_S.rf⟩
  have hm : ah_m h0 h0 := ah_m.rf
  have hcl : 0 + 0 ≤ 0 := by decide
  have hsl : 0 + 0 ≤ 0 := by decide
  have hl := lv_entry ([.ref a1, .long a2]) (n := 5) (Nat.le_of_ble_eq_true rfl)
  rw [lg_entry_eq]
  generalize (lg_sl ([.ref a1, .long a2]) ++ List.replicate (5 - (lg_sl ([.ref a1, .long a2])).length) Slot.unset).toArray = ls at hl ⊢
  have hl : lv_has ls 5 [(0, .ref a1), (1, .long a2)] := hl
  unfold w_WH_becomeLong at w
  refine lv_lload_n hx hb d_WH_becomeLong_0 rfl (lv_at hl 1 rfl) ?_
  refine lv_lconst (v := 0) hx hb d_WH_becomeLong_1 (by decide) ?_
  refine hb_lcmp_ge (tgt := 11) hx hb d_WH_becomeLong_2 d_WH_becomeLong_3 (by decide) (fun c3 => ?_) (fun c3 => ?_)
  · have w := w.1 c3
    refine lv_lload_n hx hb d_WH_becomeLong_11 rfl (lv_at hl 1 rfl) ?_
    exact tb_WH_becomeLong_12 C (by omega) (by omega)  a1 a2 a2 h0 _ _ _ w hm hW (lv_sub hl [0, 1] rfl)
  · have w := w.2 c3
    refine lv_lload_n hx hb d_WH_becomeLong_6 rfl (lv_at hl 1 rfl) ?_
    refine lv_lneg hx hb d_WH_becomeLong_7 ?_
    refine lv_goto (tgt := 12) hx hb d_WH_becomeLong_8 (by decide) ?_
    exact tb_WH_becomeLong_12 C (by omega) (by omega)  a1 a2 (-a2) h0 _ _ _ w hm hW (lv_sub hl [0, 1] rfl)
set_option maxHeartbeats 4000000 in
set_option maxRecDepth 100000 in
theorem m_WH_become {l : Launch} (G : zG) (a1 : Nat) (a2 : Nat) (h0 : ah_H) {K : ah_H → Prop} (hst : l.stackTraces = false) (w : w_WH_become a1 a2 h0 K) : Met l y_WH_become (Cond.code y_WH_become b_WH_become 2 none :: zx_T) rm_WH_become (va_Pc [.ref a1, .ref a2] (ah_B G h0)) (va_Qv (fun h9 => K h9 ∧ ah_m h0 h9) (ah_B G) (fun q => G.2.2 ≤ q)) 0 0 (fun q => G.2.2 ≤ q) := by
  refine Met.ofW (cc := b_WH_become) (maxL := 2) (ret := none) (by decide) rfl ?_
  intro p e s m args below meth c s₁ B hml hv
  have hout : ∀ x ∈ c.exceptionTable.toList, False := cx_out B (atoms_spec B.pre _ List.mem_cons_self)
  obtain ⟨rfl, hB⟩ := hv
  have C : cx_C p l s m _ meth c G y_WH_become b_WH_become 2 none "BigDesk$Whole" := ⟨B.exec, B.bytes, B.returns, hml, findClass_of_methodNamed B.named, atoms_spec B.pre, B.notSynchronized, hB.2.2.1, hB.2.2.2, hout, fun z9 => (name_of_methodNamed B.named B.method).1.trans z9, hst⟩
  obtain ⟨hx, hb, hr, hml, hown, hts, hlk, hK, hX, hout, hin, hst⟩ := id C
  have hw : ∀ {w9 : Cond}, w9 ∈ zx_T → w9.before _ s = true := fun h9 => hts _ (List.mem_cons_of_mem _ h9)
  have hW : ah_W G s.heap h0 s.heap [] := ⟨hB.1, hB.2.1, va_S.rf⟩
  have hm : ah_m h0 h0 := ah_m.rf
  have hcl : 0 + 0 ≤ 0 := by decide
  have hsl : 0 + 0 ≤ 0 := by decide
  have hl := lv_entry ([.ref a1, .ref a2]) (n := 2) (Nat.le_of_ble_eq_true rfl)
  rw [lg_entry_eq]
  generalize (lg_sl ([.ref a1, .ref a2]) ++ List.replicate (2 - (lg_sl ([.ref a1, .ref a2])).length) Slot.unset).toArray = ls at hl ⊢
  have hl : lv_has ls 2 [(0, .ref a1), (1, .ref a2)] := hl
  unfold w_WH_become at w
  refine lv_aload_n hx hb d_WH_become_0 rfl (lv_at hl 1 rfl) ?_
  obtain ⟨t3, w⟩ := w
  obtain ⟨q4, e5, w⟩ := w
  refine hb_get (ci := 2) (C := "BigDesk$Whole") (T := T_WH) (N := 3) hx hb hts (fun w9 h9 => List.mem_cons_of_mem _ (u_WH w9 h9)) hown hK hW t3 rfl (by decide) 0 (by decide) (hw wd_33) (fun _ h9 => h9) (q := (2, 5)) rfl (v := .ref q4) (ah_f_R e5) d_WH_become_1 ?_
  refine lv_iconst (v := 0) hx hb d_WH_become_4 (by decide) ?_
  refine lv_aload_n hx hb d_WH_become_5 rfl (lv_at hl 0 rfl) ?_
  obtain ⟨t6, w⟩ := w
  obtain ⟨q7, e8, w⟩ := w
  refine hb_get (ci := 2) (C := "BigDesk$Whole") (T := T_WH) (N := 3) hx hb hts (fun w9 h9 => List.mem_cons_of_mem _ (u_WH w9 h9)) hown hK hW t6 rfl (by decide) 0 (by decide) (hw wd_33) (fun _ h9 => h9) (q := (2, 5)) rfl (v := .ref q7) (ah_f_R e8) d_WH_become_6 ?_
  refine lv_iconst (v := 0) hx hb d_WH_become_9 (by decide) ?_
  refine lv_sipush (v := 258) hx hb d_WH_become_10 (by decide) ?_
  obtain ⟨t9, w⟩ := w
  obtain ⟨t10, w⟩ := w
  obtain ⟨y11, w⟩ := w
  obtain ⟨y12, w⟩ := w
  obtain ⟨y13, w⟩ := w
  obtain ⟨y14, w⟩ := w
  obtain ⟨y15, w⟩ := w
  refine hb_copyl hx hb (by rw [hml]; exact hl.1.symm) hown (hw wd_237) (hw wd_239) (hw wd_238) (hw wd_10) hK hW t9 t10 y11 y12 y13 y14 y15 (Nat.le_of_ble_eq_true rfl) (Nat.le_of_ble_eq_true (by decide +kernel)) d_WH_become_13 (fun H locs h16 eh16 hW => ?_)
  have w := w h16 eh16
  have mm17 : ah_m h0 h16 := ah_m.rf.st (by rw [eh16]; rfl) (by rw [eh16]; rfl)
  have hm := hm.tr mm17
  have t18 := mm17.tg t3 (by decide)
  have t19 := mm17.tg t6 (by decide)
  have t20 := mm17.tg t9 (by decide)
  have t21 := mm17.tg t10 (by decide)
  refine lv_aload_n hx hb d_WH_become_16 rfl (lv_at hl 0 rfl) ?_
  refine lv_aload_n hx hb d_WH_become_17 rfl (lv_at hl 1 rfl) ?_
  refine hb_get (ci := 2) (C := "BigDesk$Whole") (T := T_WH) (N := 3) hx hb hts (fun w9 h9 => List.mem_cons_of_mem _ (u_WH w9 h9)) hown hK hW t18 rfl (by decide) 1 (by decide) (hw wd_37) (fun _ h9 => h9) (q := (0, 0)) rfl (v := .int (ah_I h16 0 a2)) rfl d_WH_become_18 ?_
  refine lv_topi (fun v22 ev22 => ?_)
  have w := w v22 ev22
  refine hb_put (ci := 2) (C := "BigDesk$Whole") (T := T_WH) (N := 3) hx hb hts (fun w9 h9 => List.mem_cons_of_mem _ (u_WH w9 h9)) t_WH o_WH n_WH hown hK hW t19 rfl (by decide) 1 (by decide) (hw wd_37) (fun _ h9 => h9) rfl (ty := t_WH 1) (by decide +kernel) (q := (0, 0)) rfl (by decide) (v := .int v22) rfl rfl (ah_one_I h16 0 a1 v22) d_WH_become_21 (fun H locs h23 eh23 hW => ?_)
  have w := w h23 eh23
  have mm24 : ah_m h16 h23 := ah_m.rf.st (by rw [eh23]; rfl) (by rw [eh23]; rfl)
  have hm := hm.tr mm24
  have t25 := mm24.tg t18 (by decide)
  have t26 := mm24.tg t19 (by decide)
  have t27 := mm24.tg t20 (by decide)
  have t28 := mm24.tg t21 (by decide)
  refine lv_aload_n hx hb d_WH_become_24 rfl (lv_at hl 0 rfl) ?_
  refine lv_aload_n hx hb d_WH_become_25 rfl (lv_at hl 1 rfl) ?_
  refine hb_get (ci := 2) (C := "BigDesk$Whole") (T := T_WH) (N := 3) hx hb hts (fun w9 h9 => List.mem_cons_of_mem _ (u_WH w9 h9)) hown hK hW t25 rfl (by decide) 2 (by decide) (hw wd_43) (fun _ h9 => h9) (q := (0, 1)) rfl (v := .int (ah_I h23 1 a2)) rfl d_WH_become_26 ?_
  refine lv_topi (fun v29 ev29 => ?_)
  have w := w v29 ev29
  obtain ⟨z30, w⟩ := w
  refine hb_put (ci := 2) (C := "BigDesk$Whole") (T := T_WH) (N := 3) hx hb hts (fun w9 h9 => List.mem_cons_of_mem _ (u_WH w9 h9)) t_WH o_WH n_WH hown hK hW t26 rfl (by decide) 2 (by decide) (hw wd_43) (fun _ h9 => h9) rfl (ty := t_WH 2) (by decide +kernel) (q := (0, 1)) rfl (by decide) (v := .int v29) (zb_n z30) (zb_f z30) (ah_one_I h23 1 a1 v29) d_WH_become_29 (fun H locs h31 eh31 hW => ?_)
  have w := w h31 eh31
  have mm32 : ah_m h23 h31 := ah_m.rf.st (by rw [eh31]; rfl) (by rw [eh31]; rfl)
  have hm := hm.tr mm32
  have t33 := mm32.tg t25 (by decide)
  have t34 := mm32.tg t26 (by decide)
  have t35 := mm32.tg t27 (by decide)
  have t36 := mm32.tg t28 (by decide)
  exact hb_vret (K := fun h9 => K h9 ∧ ah_m h0 h9) hx hb hr hlk hK hX hW ⟨w, hm⟩ (by omega) (by omega) d_WH_become_32
set_option maxHeartbeats 4000000 in
set_option maxRecDepth 100000 in
theorem tl_WH_bitsOf_2 {p : Program} {l : Launch} {e : Env} {s : State} {m : MethodId} {args : Array Value} {below : List Frame} {meth : Method} {c : Code} {G : zG} (C : cx_C p l s m args meth c G y_WH_bitsOf b_WH_bitsOf 3 (some .int) "BigDesk$Whole") {K : Int32 → ah_H → Prop} {h0 : ah_H} {cells slots : Nat} (hcl : cells + 0 ≤ 0) (hsl : slots + 0 ≤ 0) {xt_22 : Int32 → ah_H → Prop} (hc_xt_22 : ∀ (z0 : Int32) (hz : ah_H) (H : Heap) (locs : List Loc) (ls : Array Slot), xt_22 z0 hz → ah_m h0 hz → ah_W G s.heap hz H locs → lv_has ls 3 [(2, .int z0)] → W p l e rm_WH_bitsOf s m args below meth c H locs cells slots (MQ below (va_Qi (fun r9 h9 => K r9 h9 ∧ ah_m h0 h9) (ah_B G) (fun q => G.2.2 ≤ q)) args s 0 0 (fun q => G.2.2 ≤ q)) (F0 m 22 ls [])) : ∀ (n : Nat) (x2 : Int64) (x3 : Int32) (h4 : ah_H) (H : Heap) (locs : List Loc) (ls : Array Slot), lp_WH_bitsOf_2 xt_22 K n x2 x3 h4 → ah_m h0 h4 → ah_W G s.heap h4 H locs → lv_has ls 3 [(0, .long x2), (2, .int x3)] → W p l e rm_WH_bitsOf s m args below meth c H locs cells slots (MQ below (va_Qi (fun r9 h9 => K r9 h9 ∧ ah_m h0 h9) (ah_B G) (fun q => G.2.2 ≤ q)) args s 0 0 (fun q => G.2.2 ≤ q)) (F0 m 2 ls []) := by
  obtain ⟨hx, hb, hr, hml, hown, hts, hlk, hK, hX, hout, hin, hst⟩ := id C
  have hw : ∀ {w9 : Cond}, w9 ∈ zx_T → w9.before args s = true := fun h9 => hts _ (List.mem_cons_of_mem _ h9)
  intro n
  induction n with
  | zero =>
    intro x2 x3 h4 H locs ls w
    exact absurd w (by intro z9; exact z9)
  | succ n ih =>
    intro x2 x3 h4 H locs ls w hm hW hl
    unfold lp_WH_bitsOf_2 at w
    refine lv_iload_n hx hb d_WH_bitsOf_2 rfl (lv_at hl 1 rfl) ?_
    refine lv_bipush (v := 32) hx hb d_WH_bitsOf_3 (by decide) ?_
    refine lv_icmp_ge (tgt := 22) hx hb d_WH_bitsOf_5 (by decide) (fun c5 => ?_) (fun c5 => ?_)
    · have w := w.1 c5
      exact hc_xt_22 x3 h4 _ _ _ w hm hW (lv_sub hl [1] rfl)
    · have w := w.2 c5
      refine lv_lload_n hx hb d_WH_bitsOf_8 rfl (lv_at hl 0 rfl) ?_
      refine lv_iload_n hx hb d_WH_bitsOf_9 rfl (lv_at hl 1 rfl) ?_
      refine lv_lushr hx hb d_WH_bitsOf_10 rfl ?_
      refine lv_lconst (v := 0) hx hb d_WH_bitsOf_11 (by decide) ?_
      refine hb_lcmp_eq (tgt := 22) hx hb d_WH_bitsOf_12 d_WH_bitsOf_13 (by decide) (fun c6 => ?_) (fun c6 => ?_)
      · have w := w.1 c6
        exact hc_xt_22 x3 h4 _ _ _ w hm hW (lv_sub hl [1] rfl)
      · have w := w.2 c6
        obtain ⟨v7, ev7⟩ : ∃ y9 : Int32, y9 = x3 + 1 := ⟨_, rfl⟩
        have w := w v7 ev7
        refine lv_iinc (v := v7) (lv' := [(2, .int v7), (0, .long x2)]) hx hb d_WH_bitsOf_16 hl (k := 1) rfl (by rw [ev7]; rfl) (by decide) rfl (fun ls hl => ?_)
        refine lv_goto (tgt := 2) hx hb d_WH_bitsOf_19 (by decide) ?_
        exact ih x2 v7 h4 _ _ _ w hm hW (lv_sub hl [1, 0] rfl)
set_option maxHeartbeats 4000000 in
set_option maxRecDepth 100000 in
theorem tb_WH_bitsOf_22 {p : Program} {l : Launch} {e : Env} {s : State} {m : MethodId} {args : Array Value} {below : List Frame} {meth : Method} {c : Code} {G : zG} (C : cx_C p l s m args meth c G y_WH_bitsOf b_WH_bitsOf 3 (some .int) "BigDesk$Whole") {K : Int32 → ah_H → Prop} {h0 : ah_H} {cells slots : Nat} (hcl : cells + 0 ≤ 0) (hsl : slots + 0 ≤ 0)  (x10 : Int32) (h11 : ah_H) (H : Heap) (locs : List Loc) (ls : Array Slot) (w : bk_WH_bitsOf_22 K x10 h11) (hm : ah_m h0 h11) (hW : ah_W G s.heap h11 H locs) (hl : lv_has ls 3 [(2, .int x10)]) : W p l e rm_WH_bitsOf s m args below meth c H locs cells slots (MQ below (va_Qi (fun r9 h9 => K r9 h9 ∧ ah_m h0 h9) (ah_B G) (fun q => G.2.2 ≤ q)) args s 0 0 (fun q => G.2.2 ≤ q)) (F0 m 22 ls []) := by
  unfold bk_WH_bitsOf_22 at w
  obtain ⟨hx, hb, hr, hml, hown, hts, hlk, hK, hX, hout, hin, hst⟩ := id C
  have hw : ∀ {w9 : Cond}, w9 ∈ zx_T → w9.before args s = true := fun h9 => hts _ (List.mem_cons_of_mem _ h9)
  refine lv_iload_n hx hb d_WH_bitsOf_22 rfl (lv_at hl 0 rfl) ?_
  exact hb_iret (K := fun r9 h9 => K r9 h9 ∧ ah_m h0 h9) hx hb hr hlk hK hX hW ⟨w, hm⟩ (by omega) (by omega) d_WH_bitsOf_23
set_option maxHeartbeats 4000000 in
set_option maxRecDepth 100000 in
theorem m_WH_bitsOf {l : Launch} (G : zG) (a1 : Int64) (h0 : ah_H) {K : Int32 → ah_H → Prop} (hst : l.stackTraces = false) (w : w_WH_bitsOf a1 h0 K) : Met l y_WH_bitsOf (Cond.code y_WH_bitsOf b_WH_bitsOf 3 (some .int) :: zx_T) rm_WH_bitsOf (va_Pc [.long a1] (ah_B G h0)) (va_Qi (fun r9 h9 => K r9 h9 ∧ ah_m h0 h9) (ah_B G) (fun q => G.2.2 ≤ q)) 0 0 (fun q => G.2.2 ≤ q) := by
  refine Met.ofW (cc := b_WH_bitsOf) (maxL := 3) (ret := (some .int)) (by decide) rfl ?_
  intro p e s m args below meth c s₁ B hml hv
  have hout : ∀ x ∈ c.exceptionTable.toList, False := cx_out B (atoms_spec B.pre _ List.mem_cons_self)
  obtain ⟨rfl, hB⟩ := hv
  have C : cx_C p l s m _ meth c G y_WH_bitsOf b_WH_bitsOf 3 (some .int) "BigDesk$Whole" := ⟨B.exec, B.bytes, B.returns, hml, findClass_of_methodNamed B.named, atoms_spec B.pre, B.notSynchronized, hB.2.2.1, hB.2.2.2, hout, fun z9 => (name_of_methodNamed B.named B.method).1.trans z9, hst⟩
  obtain ⟨hx, hb, hr, hml, hown, hts, hlk, hK, hX, hout, hin, hst⟩ := id C
  have hw : ∀ {w9 : Cond}, w9 ∈ zx_T → w9.before _ s = true := fun h9 => hts _ (List.mem_cons_of_mem _ h9)
  have hW : ah_W G s.heap h0 s.heap [] := ⟨hB.1, hB.2.1, va_S.rf⟩
  have hm : ah_m h0 h0 := ah_m.rf
  have hcl : 0 + 0 ≤ 0 := by decide
  have hsl : 0 + 0 ≤ 0 := by decide
  have hl := lv_entry ([.long a1]) (n := 3) (Nat.le_of_ble_eq_true rfl)
  rw [lg_entry_eq]
  generalize (lg_sl ([.long a1]) ++ List.replicate (3 - (lg_sl ([.long a1])).length) Slot.unset).toArray = ls at hl ⊢
  have hl : lv_has ls 3 [(0, .long a1)] := hl
  unfold w_WH_bitsOf at w
  refine lv_iconst (v := 0) hx hb d_WH_bitsOf_0 (by decide) ?_
  refine lv_istore_n (lv' := [(2, .int (0 : Int32)), (0, .long a1)]) hx hb d_WH_bitsOf_1 rfl hl (by decide) rfl (fun ls hl => ?_)
  obtain ⟨k12, w⟩ := w
  refine tl_WH_bitsOf_2 C hcl hsl (fun x8 h9 H locs ls w hm hW hl => ?_) k12 a1 (0 : Int32) h0 _ _ _ w hm hW (lv_sub hl [1, 0] rfl)
  · exact tb_WH_bitsOf_22 C (by omega) (by omega)  x8 h9 _ _ _ w hm hW (lv_sub hl [0] rfl)
set_option maxHeartbeats 4000000 in
set_option maxRecDepth 100000 in
theorem tb_WH_bits_35 {p : Program} {l : Launch} {e : Env} {s : State} {m : MethodId} {args : Array Value} {below : List Frame} {meth : Method} {c : Code} {G : zG} (C : cx_C p l s m args meth c G y_WH_bits b_WH_bits 1 (some .int) "BigDesk$Whole") {K : Int32 → ah_H → Prop} {h0 : ah_H} {cells slots : Nat} (hcl : cells + 0 ≤ 0) (hsl : slots + 0 ≤ 0)  (s4 : Int32) (h5 : ah_H) (H : Heap) (locs : List Loc) (ls : Array Slot) (w : bk_WH_bits_35 K s4 h5) (hm : ah_m h0 h5) (hW : ah_W G s.heap h5 H locs) (hl : lv_has ls 1 []) : W p l e rm_WH_bits s m args below meth c H locs cells slots (MQ below (va_Qi (fun r9 h9 => K r9 h9 ∧ ah_m h0 h9) (ah_B G) (fun q => G.2.2 ≤ q)) args s 0 0 (fun q => G.2.2 ≤ q)) (F0 m 35 ls [.int s4]) := by
  unfold bk_WH_bits_35 at w
  obtain ⟨hx, hb, hr, hml, hown, hts, hlk, hK, hX, hout, hin, hst⟩ := id C
  have hw : ∀ {w9 : Cond}, w9 ∈ zx_T → w9.before args s = true := fun h9 => hts _ (List.mem_cons_of_mem _ h9)
  exact hb_iret (K := fun r9 h9 => K r9 h9 ∧ ah_m h0 h9) hx hb hr hlk hK hX hW ⟨w, hm⟩ (by omega) (by omega) d_WH_bits_35
set_option maxHeartbeats 4000000 in
set_option maxRecDepth 100000 in
theorem m_WH_bits {l : Launch} (G : zG) (a1 : Nat) (h0 : ah_H) {K : Int32 → ah_H → Prop} (hst : l.stackTraces = false) (w : w_WH_bits a1 h0 K) : Met l y_WH_bits (Cond.code y_WH_bits b_WH_bits 1 (some .int) :: zx_T) rm_WH_bits (va_Pc [.ref a1] (ah_B G h0)) (va_Qi (fun r9 h9 => K r9 h9 ∧ ah_m h0 h9) (ah_B G) (fun q => G.2.2 ≤ q)) 0 0 (fun q => G.2.2 ≤ q) := by
  refine Met.ofW (cc := b_WH_bits) (maxL := 1) (ret := (some .int)) (by decide) rfl ?_
  intro p e s m args below meth c s₁ B hml hv
  have hout : ∀ x ∈ c.exceptionTable.toList, False := cx_out B (atoms_spec B.pre _ List.mem_cons_self)
  obtain ⟨rfl, hB⟩ := hv
  have C : cx_C p l s m _ meth c G y_WH_bits b_WH_bits 1 (some .int) "BigDesk$Whole" := ⟨B.exec, B.bytes, B.returns, hml, findClass_of_methodNamed B.named, atoms_spec B.pre, B.notSynchronized, hB.2.2.1, hB.2.2.2, hout, fun z9 => (name_of_methodNamed B.named B.method).1.trans z9, hst⟩
  obtain ⟨hx, hb, hr, hml, hown, hts, hlk, hK, hX, hout, hin, hst⟩ := id C
  have hw : ∀ {w9 : Cond}, w9 ∈ zx_T → w9.before _ s = true := fun h9 => hts _ (List.mem_cons_of_mem _ h9)
  have hW : ah_W G s.heap h0 s.heap [] := ⟨hB.1, hB.2.1, va_S.rf⟩
  have hm : ah_m h0 h0 := ah_m.rf
  have hcl : 0 + 0 ≤ 0 := by decide
  have hsl : 0 + 0 ≤ 0 := by decide
  have hl := lv_entry ([.ref a1]) (n := 1) (Nat.le_of_ble_eq_true rfl)
  rw [lg_entry_eq]
  generalize (lg_sl ([.ref a1]) ++ List.replicate (1 - (lg_sl ([.ref a1])).length) Slot.unset).toArray = ls at hl ⊢
  have hl : lv_has ls 1 [(0, .ref a1)] := hl
  unfold w_WH_bits at w
  refine lv_aload_n hx hb d_WH_bits_0 rfl (lv_at hl 0 rfl) ?_
  obtain ⟨t2, w⟩ := w
  refine hb_get (ci := 2) (C := "BigDesk$Whole") (T := T_WH) (N := 3) hx hb hts (fun w9 h9 => List.mem_cons_of_mem _ (u_WH w9 h9)) hown hK hW t2 rfl (by decide) 1 (by decide) (hw wd_37) (fun _ h9 => h9) (q := (0, 0)) rfl (v := .int (ah_I h0 0 a1)) rfl d_WH_bits_1 ?_
  refine lv_if_le (tgt := 34) hx hb d_WH_bits_4 (by decide) (fun c3 => ?_) (fun c3 => ?_)
  · have w := w.1 c3
    refine lv_iconst (v := 0) hx hb d_WH_bits_34 (by decide) ?_
    exact tb_WH_bits_35 C (by omega) (by omega)  (0 : Int32) h0 _ _ _ w hm hW (lv_sub hl [] rfl)
  · have w := w.2 c3
    refine lv_bipush (v := 32) hx hb d_WH_bits_7 (by decide) ?_
    refine lv_aload_n hx hb d_WH_bits_9 rfl (lv_at hl 0 rfl) ?_
    refine hb_get (ci := 2) (C := "BigDesk$Whole") (T := T_WH) (N := 3) hx hb hts (fun w9 h9 => List.mem_cons_of_mem _ (u_WH w9 h9)) hown hK hW t2 rfl (by decide) 1 (by decide) (hw wd_37) (fun _ h9 => h9) (q := (0, 0)) rfl (v := .int (ah_I h0 0 a1)) rfl d_WH_bits_10 ?_
    refine lv_iconst (v := 1) hx hb d_WH_bits_13 (by decide) ?_
    refine lv_isub hx hb d_WH_bits_14 ?_
    refine lv_imul hx hb d_WH_bits_15 ?_
    refine lv_aload_n hx hb d_WH_bits_16 rfl (lv_at hl 0 rfl) ?_
    obtain ⟨q6, e7, w⟩ := w
    refine hb_get (ci := 2) (C := "BigDesk$Whole") (T := T_WH) (N := 3) hx hb hts (fun w9 h9 => List.mem_cons_of_mem _ (u_WH w9 h9)) hown hK hW t2 rfl (by decide) 0 (by decide) (hw wd_33) (fun _ h9 => h9) (q := (2, 5)) rfl (v := .ref q6) (ah_f_R e7) d_WH_bits_17 ?_
    refine lv_aload_n hx hb d_WH_bits_20 rfl (lv_at hl 0 rfl) ?_
    refine hb_get (ci := 2) (C := "BigDesk$Whole") (T := T_WH) (N := 3) hx hb hts (fun w9 h9 => List.mem_cons_of_mem _ (u_WH w9 h9)) hown hK hW t2 rfl (by decide) 1 (by decide) (hw wd_37) (fun _ h9 => h9) (q := (0, 0)) rfl (v := .int (ah_I h0 0 a1)) rfl d_WH_bits_21 ?_
    refine lv_iconst (v := 1) hx hb d_WH_bits_24 (by decide) ?_
    refine lv_isub hx hb d_WH_bits_25 ?_
    obtain ⟨t8, w⟩ := w
    obtain ⟨i9, w⟩ := w
    refine hb_lald hx hb hK hW t8 (by decide) (by decide) 2 rfl i9 d_WH_bits_26 ?_
    refine hb_calli (va_runS (As := [.long (ah_bL h0 q6 ((ah_I h0 0 a1) - (1 : Int32)).toNatClampNeg)]) (rest := [.int ((32 : Int32) * ((ah_I h0 0 a1) - (1 : Int32)))]) ⟨hx, hb, hml, hown, hts⟩ (m_WH_bitsOf G (ah_bL h0 q6 ((ah_I h0 0 a1) - (1 : Int32)).toNatClampNeg) h0 hst w) (va_cwS 1 hts (zx_gS wd_277 wd_278 wd_2 wd_279) rfl rfl rfl (by decide +kernel) ⟨Nat.le_of_ble_eq_true rfl, Nat.le_of_ble_eq_true rfl⟩) (hb_preS hK hX hW) rfl rfl hl.1 rfl (lv_room (Nat.le_of_ble_eq_true rfl)) d_WH_bits_27 ⟨(by show _ ≤ 0; omega), (by show _ ≤ 0; omega)⟩) hW (fun r11 h10 H locs hk hW => ?_)
    obtain ⟨w, mm12⟩ := hk
    have w := w mm12
    have hm := hm.tr mm12
    have t13 := mm12.tg t2 (by decide)
    have t14 := mm12.tg t8 (by decide)
    refine lv_iadd hx hb d_WH_bits_30 ?_
    refine lv_goto (tgt := 35) hx hb d_WH_bits_31 (by decide) ?_
    exact tb_WH_bits_35 C (by omega) (by omega)  (((32 : Int32) * ((ah_I h0 0 a1) - (1 : Int32))) + r11) h10 _ _ _ w hm hW (lv_sub hl [] rfl)
set_option maxHeartbeats 4000000 in
set_option maxRecDepth 100000 in
theorem tb_WH_at_21 {p : Program} {l : Launch} {e : Env} {s : State} {m : MethodId} {args : Array Value} {below : List Frame} {meth : Method} {c : Code} {G : zG} (C : cx_C p l s m args meth c G y_WH_at b_WH_at 2 (some .long) "BigDesk$Whole") {K : Int64 → ah_H → Prop} {h0 : ah_H} {cells slots : Nat} (hcl : cells + 0 ≤ 0) (hsl : slots + 0 ≤ 0)  (s5 : Int64) (h6 : ah_H) (H : Heap) (locs : List Loc) (ls : Array Slot) (w : bk_WH_at_21 K s5 h6) (hm : ah_m h0 h6) (hW : ah_W G s.heap h6 H locs) (hl : lv_has ls 2 []) : W p l e rm_WH_at s m args below meth c H locs cells slots (MQ below (va_Ql (fun r9 h9 => K r9 h9 ∧ ah_m h0 h9) (ah_B G) (fun q => G.2.2 ≤ q)) args s 0 0 (fun q => G.2.2 ≤ q)) (F0 m 21 ls [.long s5]) := by
  unfold bk_WH_at_21 at w
  obtain ⟨hx, hb, hr, hml, hown, hts, hlk, hK, hX, hout, hin, hst⟩ := id C
  have hw : ∀ {w9 : Cond}, w9 ∈ zx_T → w9.before args s = true := fun h9 => hts _ (List.mem_cons_of_mem _ h9)
  exact hb_lret (K := fun r9 h9 => K r9 h9 ∧ ah_m h0 h9) hx hb hr hlk hK hX hW ⟨w, hm⟩ (by omega) (by omega) d_WH_at_21
set_option maxHeartbeats 4000000 in
set_option maxRecDepth 100000 in
theorem tb_WH_at_20 {p : Program} {l : Launch} {e : Env} {s : State} {m : MethodId} {args : Array Value} {below : List Frame} {meth : Method} {c : Code} {G : zG} (C : cx_C p l s m args meth c G y_WH_at b_WH_at 2 (some .long) "BigDesk$Whole") {K : Int64 → ah_H → Prop} {h0 : ah_H} {cells slots : Nat} (hcl : cells + 0 ≤ 0) (hsl : slots + 0 ≤ 0)   (h4 : ah_H) (H : Heap) (locs : List Loc) (ls : Array Slot) (w : bk_WH_at_20 K h4) (hm : ah_m h0 h4) (hW : ah_W G s.heap h4 H locs) (hl : lv_has ls 2 []) : W p l e rm_WH_at s m args below meth c H locs cells slots (MQ below (va_Ql (fun r9 h9 => K r9 h9 ∧ ah_m h0 h9) (ah_B G) (fun q => G.2.2 ≤ q)) args s 0 0 (fun q => G.2.2 ≤ q)) (F0 m 20 ls []) := by
  unfold bk_WH_at_20 at w
  obtain ⟨hx, hb, hr, hml, hown, hts, hlk, hK, hX, hout, hin, hst⟩ := id C
  have hw : ∀ {w9 : Cond}, w9 ∈ zx_T → w9.before args s = true := fun h9 => hts _ (List.mem_cons_of_mem _ h9)
  refine lv_lconst (v := 0) hx hb d_WH_at_20 (by decide) ?_
  exact tb_WH_at_21 C (by omega) (by omega)  (0 : Int64) h4 _ _ _ w hm hW (lv_sub hl [] rfl)
set_option maxHeartbeats 4000000 in
set_option maxRecDepth 100000 in
theorem m_WH_at {l : Launch} (G : zG) (a1 : Nat) (a2 : Int32) (h0 : ah_H) {K : Int64 → ah_H → Prop} (hst : l.stackTraces = false) (w : w_WH_at a1 a2 h0 K) : Met l y_WH_at (Cond.code y_WH_at b_WH_at 2 (some .long) :: zx_T) rm_WH_at (va_Pc [.ref a1, .int a2] (ah_B G h0)) (va_Ql (fun r9 h9 => K r9 h9 ∧ ah_m h0 h9) (ah_B G) (fun q => G.2.2 ≤ q)) 0 0 (fun q => G.2.2 ≤ q) := by
  refine Met.ofW (cc := b_WH_at) (maxL := 2) (ret := (some .long)) (by decide) rfl ?_
  intro p e s m args below meth c s₁ B hml hv
  have hout : ∀ x ∈ c.exceptionTable.toList, False := cx_out B (atoms_spec B.pre _ List.mem_cons_self)
  obtain ⟨rfl, hB⟩ := hv
  have C : cx_C p l s m _ meth c G y_WH_at b_WH_at 2 (some .long) "BigDesk$Whole" := ⟨B.exec, B.bytes, B.returns, hml, findClass_of_methodNamed B.named, atoms_spec B.pre, B.notSynchronized, hB.2.2.1, hB.2.2.2, hout, fun z9 => (name_of_methodNamed B.named B.method).1.trans z9, hst⟩
  obtain ⟨hx, hb, hr, hml, hown, hts, hlk, hK, hX, hout, hin, hst⟩ := id C
  have hw : ∀ {w9 : Cond}, w9 ∈ zx_T → w9.before _ s = true := fun h9 => hts _ (List.mem_cons_of_mem _ h9)
  have hW : ah_W G s.heap h0 s.heap [] := ⟨hB.1, hB.2.1, va_S.rf⟩
  have hm : ah_m h0 h0 := ah_m.rf
  have hcl : 0 + 0 ≤ 0 := by decide
  have hsl : 0 + 0 ≤ 0 := by decide
  have hl := lv_entry ([.ref a1, .int a2]) (n := 2) (Nat.le_of_ble_eq_true rfl)
  rw [lg_entry_eq]
  generalize (lg_sl ([.ref a1, .int a2]) ++ List.replicate (2 - (lg_sl ([.ref a1, .int a2])).length) Slot.unset).toArray = ls at hl ⊢
  have hl : lv_has ls 2 [(0, .ref a1), (1, .int a2)] := hl
  unfold w_WH_at at w
  refine lv_iload_n hx hb d_WH_at_0 rfl (lv_at hl 1 rfl) ?_
  refine lv_if_lt (tgt := 20) hx hb d_WH_at_1 (by decide) (fun c3 => ?_) (fun c3 => ?_)
  · have w := w.1 c3
    exact tb_WH_at_20 C (by omega) (by omega)   h0 _ _ _ w hm hW (lv_sub hl [] rfl)
  · have w := w.2 c3
    refine lv_iload_n hx hb d_WH_at_4 rfl (lv_at hl 1 rfl) ?_
    refine lv_sipush (v := 258) hx hb d_WH_at_5 (by decide) ?_
    refine lv_icmp_ge (tgt := 20) hx hb d_WH_at_8 (by decide) (fun c7 => ?_) (fun c7 => ?_)
    · have w := w.1 c7
      exact tb_WH_at_20 C (by omega) (by omega)   h0 _ _ _ w hm hW (lv_sub hl [] rfl)
    · have w := w.2 c7
      refine lv_aload_n hx hb d_WH_at_11 rfl (lv_at hl 0 rfl) ?_
      obtain ⟨t8, w⟩ := w
      obtain ⟨q9, e10, w⟩ := w
      refine hb_get (ci := 2) (C := "BigDesk$Whole") (T := T_WH) (N := 3) hx hb hts (fun w9 h9 => List.mem_cons_of_mem _ (u_WH w9 h9)) hown hK hW t8 rfl (by decide) 0 (by decide) (hw wd_33) (fun _ h9 => h9) (q := (2, 5)) rfl (v := .ref q9) (ah_f_R e10) d_WH_at_12 ?_
      refine lv_iload_n hx hb d_WH_at_15 rfl (lv_at hl 1 rfl) ?_
      obtain ⟨t11, w⟩ := w
      obtain ⟨i12, w⟩ := w
      refine hb_lald hx hb hK hW t11 (by decide) (by decide) 2 rfl i12 d_WH_at_16 ?_
      refine lv_goto (tgt := 21) hx hb d_WH_at_17 (by decide) ?_
      exact tb_WH_at_21 C (by omega) (by omega)  (ah_bL h0 q9 a2.toNatClampNeg) h0 _ _ _ w hm hW (lv_sub hl [] rfl)
set_option maxHeartbeats 4000000 in
set_option maxRecDepth 100000 in
theorem tl_WH_becomeShiftedUp_33 {p : Program} {l : Launch} {e : Env} {s : State} {m : MethodId} {args : Array Value} {below : List Frame} {meth : Method} {c : Code} {G : zG} (C : cx_C p l s m args meth c G y_WH_becomeShiftedUp b_WH_becomeShiftedUp 9 none "BigDesk$Whole") {K : ah_H → Prop} {h0 : ah_H} {cells slots : Nat} (hcl : cells + 0 ≤ 0) (hsl : slots + 0 ≤ 0) {xt_87 : Nat → Int32 → ah_H → Prop} (hc_xt_87 : ∀ (z0 : Nat) (z1 : Int32) (hz : ah_H) (H : Heap) (locs : List Loc) (ls : Array Slot), xt_87 z0 z1 hz → ah_m h0 hz → ah_W G s.heap hz H locs → lv_has ls 9 [(0, .ref z0), (5, .int z1)] → W p l e rm_WH_becomeShiftedUp s m args below meth c H locs cells slots (MQ below (va_Qv (fun h9 => K h9 ∧ ah_m h0 h9) (ah_B G) (fun q => G.2.2 ≤ q)) args s 0 0 (fun q => G.2.2 ≤ q)) (F0 m 87 ls [])) : ∀ (n : Nat) (x9 : Nat) (x10 : Nat) (x11 : Int32) (x12 : Int32) (x13 : Int32) (x14 : Int32) (h15 : ah_H) (H : Heap) (locs : List Loc) (ls : Array Slot), lp_WH_becomeShiftedUp_33 xt_87 K n x9 x10 x11 x12 x13 x14 h15 → ah_m h0 h15 → ah_W G s.heap h15 H locs → lv_has ls 9 [(0, .ref x9), (1, .ref x10), (3, .int x11), (4, .int x12), (5, .int x13), (6, .int x14)] → W p l e rm_WH_becomeShiftedUp s m args below meth c H locs cells slots (MQ below (va_Qv (fun h9 => K h9 ∧ ah_m h0 h9) (ah_B G) (fun q => G.2.2 ≤ q)) args s 0 0 (fun q => G.2.2 ≤ q)) (F0 m 33 ls []) := by
  obtain ⟨hx, hb, hr, hml, hown, hts, hlk, hK, hX, hout, hin, hst⟩ := id C
  have hw : ∀ {w9 : Cond}, w9 ∈ zx_T → w9.before args s = true := fun h9 => hts _ (List.mem_cons_of_mem _ h9)
  intro n
  induction n with
  | zero =>
    intro x9 x10 x11 x12 x13 x14 h15 H locs ls w
    exact absurd w (by intro z9; exact z9)
  | succ n ih =>
    intro x9 x10 x11 x12 x13 x14 h15 H locs ls w hm hW hl
    unfold lp_WH_becomeShiftedUp_33 at w
    refine lv_iload hx hb d_WH_becomeShiftedUp_33 (lv_at hl 5 rfl) ?_
    refine lv_if_lt (tgt := 87) hx hb d_WH_becomeShiftedUp_35 (by decide) (fun c16 => ?_) (fun c16 => ?_)
    · have w := w.1 c16
      exact hc_xt_87 x9 x13 h15 _ _ _ w hm hW (lv_sub hl [0, 4] rfl)
    · have w := w.2 c16
      refine lv_aload_n hx hb d_WH_becomeShiftedUp_38 rfl (lv_at hl 1 rfl) ?_
      refine lv_iload hx hb d_WH_becomeShiftedUp_39 (lv_at hl 5 rfl) ?_
      refine lv_iload_n hx hb d_WH_becomeShiftedUp_41 rfl (lv_at hl 2 rfl) ?_
      refine lv_isub hx hb d_WH_becomeShiftedUp_42 ?_
      refine lv_iconst (v := 1) hx hb d_WH_becomeShiftedUp_43 (by decide) ?_
      refine lv_isub hx hb d_WH_becomeShiftedUp_44 ?_
      obtain ⟨t17, w⟩ := w
      refine hb_calll (va_runV (As := [.int ((x14 - x11) - (1 : Int32))]) (rest := []) ⟨hx, hb, hml, hown, hts⟩ (m_WH_at G x10 ((x14 - x11) - (1 : Int32)) h15 hst w) (cwV 1 hts (zx_gV wd_343 wd_344 wd_345 wd_2 wd_346) rfl rfl rfl (by decide +kernel) ⟨Nat.le_of_ble_eq_true rfl, Nat.le_of_ble_eq_true rfl⟩) (hb_preV hK hX hW t17 (by decide) rfl) rfl rfl hl.1 rfl (lv_room (Nat.le_of_ble_eq_true rfl)) d_WH_becomeShiftedUp_45 ⟨(by show _ ≤ 0; omega), (by show _ ≤ 0; omega)⟩) hW (fun r19 h18 H locs hk hW => ?_)
      obtain ⟨w, mm20⟩ := hk
      have w := w mm20
      have hm := hm.tr mm20
      have t21 := mm20.tg t17 (by decide)
      refine lv_bipush (v := 32) hx hb d_WH_becomeShiftedUp_48 (by decide) ?_
      refine lv_iload hx hb d_WH_becomeShiftedUp_50 (lv_at hl 3 rfl) ?_
      refine lv_isub hx hb d_WH_becomeShiftedUp_52 ?_
      refine lv_lushr hx hb d_WH_becomeShiftedUp_53 rfl ?_
      refine lv_topl (fun v22 ev22 => ?_)
      have w := w v22 ev22
      refine lv_lstore (lv' := [(7, .long v22), (0, .ref x9), (1, .ref x10), (3, .int x11), (4, .int x12), (5, .int x13), (6, .int x14)]) hx hb d_WH_becomeShiftedUp_54 hl (by decide) rfl (fun ls hl => ?_)
      refine lv_aload_n hx hb d_WH_becomeShiftedUp_56 rfl (lv_at hl 1 rfl) ?_
      obtain ⟨t23, w⟩ := w
      obtain ⟨q24, e25, w⟩ := w
      refine hb_get (ci := 2) (C := "BigDesk$Whole") (T := T_WH) (N := 3) hx hb hts (fun w9 h9 => List.mem_cons_of_mem _ (u_WH w9 h9)) hown hK hW t23 rfl (by decide) 0 (by decide) (hw wd_33) (fun _ h9 => h9) (q := (2, 5)) rfl (v := .ref q24) (ah_f_R e25) d_WH_becomeShiftedUp_57 ?_
      refine lv_iload hx hb d_WH_becomeShiftedUp_60 (lv_at hl 6 rfl) ?_
      refine lv_aload_n hx hb d_WH_becomeShiftedUp_62 rfl (lv_at hl 2 rfl) ?_
      refine lv_iload hx hb d_WH_becomeShiftedUp_63 (lv_at hl 6 rfl) ?_
      refine lv_iload_n hx hb d_WH_becomeShiftedUp_65 rfl (lv_at hl 3 rfl) ?_
      refine lv_isub hx hb d_WH_becomeShiftedUp_66 ?_
      refine hb_calll (va_runV (As := [.int (x14 - x11)]) (rest := [.int x14, .ref q24]) ⟨hx, hb, hml, hown, hts⟩ (m_WH_at G x10 (x14 - x11) h18 hst w) (cwV 1 hts (zx_gV wd_343 wd_344 wd_345 wd_2 wd_346) rfl rfl rfl (by decide +kernel) ⟨Nat.le_of_ble_eq_true rfl, Nat.le_of_ble_eq_true rfl⟩) (hb_preV hK hX hW t21 (by decide) rfl) rfl rfl hl.1 rfl (lv_room (Nat.le_of_ble_eq_true rfl)) d_WH_becomeShiftedUp_67 ⟨(by show _ ≤ 0; omega), (by show _ ≤ 0; omega)⟩) hW (fun r27 h26 H locs hk hW => ?_)
      obtain ⟨w, mm28⟩ := hk
      have w := w mm28
      have hm := hm.tr mm28
      have t29 := mm28.tg t21 (by decide)
      have t30 := mm28.tg t23 (by decide)
      refine lv_iload hx hb d_WH_becomeShiftedUp_70 (lv_at hl 4 rfl) ?_
      refine lv_lshl hx hb d_WH_becomeShiftedUp_72 rfl ?_
      refine lv_lload hx hb d_WH_becomeShiftedUp_73 (lv_at hl 0 rfl) ?_
      refine lv_lor hx hb d_WH_becomeShiftedUp_75 ?_
      refine lv_ldc2 (v := 4294967295) hx hb hown (hw wd_217) d_WH_becomeShiftedUp_76 ?_
      refine lv_land hx hb d_WH_becomeShiftedUp_79 ?_
      refine lv_topl (fun v31 ev31 => ?_)
      have w := w v31 ev31
      obtain ⟨t32, w⟩ := w
      obtain ⟨i33, w⟩ := w
      refine hb_last hx hb hK hW t32 (by decide) (by decide) 2 rfl i33 d_WH_becomeShiftedUp_80 (fun H locs h34 eh34 hW => ?_)
      have w := w h34 eh34
      have mm35 : ah_m h26 h34 := ah_m.rf.st (by rw [eh34]; rfl) (by rw [eh34]; rfl)
      have hm := hm.tr mm35
      have t36 := mm35.tg t29 (by decide)
      have t37 := mm35.tg t30 (by decide)
      have t38 := mm35.tg t32 (by decide)
      obtain ⟨v39, ev39⟩ : ∃ y9 : Int32, y9 = x14 + (-1) := ⟨_, rfl⟩
      have w := w v39 ev39
      refine lv_iinc (v := v39) (lv' := [(6, .int v39), (7, .long v22), (0, .ref x9), (1, .ref x10), (3, .int x11), (4, .int x12), (5, .int x13)]) hx hb d_WH_becomeShiftedUp_81 hl (k := 6) rfl (by rw [ev39]; rfl) (by decide) rfl (fun ls hl => ?_)
      refine lv_goto (tgt := 33) hx hb d_WH_becomeShiftedUp_84 (by decide) ?_
      exact ih x9 x10 x11 x12 x13 v39 h34 _ _ _ w hm hW (lv_sub hl [2, 3, 4, 5, 6, 0] rfl)
set_option maxHeartbeats 4000000 in
set_option maxRecDepth 100000 in
theorem m_WH_becomeShiftedUp {l : Launch} (G : zG) (a1 : Nat) (a2 : Nat) (a3 : Int32) (h0 : ah_H) {K : ah_H → Prop} (hst : l.stackTraces = false) (w : w_WH_becomeShiftedUp a1 a2 a3 h0 K) : Met l y_WH_becomeShiftedUp (Cond.code y_WH_becomeShiftedUp b_WH_becomeShiftedUp 9 none :: zx_T) rm_WH_becomeShiftedUp (va_Pc [.ref a1, .ref a2, .int a3] (ah_B G h0)) (va_Qv (fun h9 => K h9 ∧ ah_m h0 h9) (ah_B G) (fun q => G.2.2 ≤ q)) 0 0 (fun q => G.2.2 ≤ q) := by
  refine Met.ofW (cc := b_WH_becomeShiftedUp) (maxL := 9) (ret := none) (by decide) rfl ?_
  intro p e s m args below meth c s₁ B hml hv
  have hout : ∀ x ∈ c.exceptionTable.toList, False := cx_out B (atoms_spec B.pre _ List.mem_cons_self)
  obtain ⟨rfl, hB⟩ := hv
  have C : cx_C p l s m _ meth c G y_WH_becomeShiftedUp b_WH_becomeShiftedUp 9 none "BigDesk$Whole" := ⟨B.exec, B.bytes, B.returns, hml, findClass_of_methodNamed B.named, atoms_spec B.pre, B.notSynchronized, hB.2.2.1, hB.2.2.2, hout, fun z9 => (name_of_methodNamed B.named B.method).1.trans z9, hst⟩
  obtain ⟨hx, hb, hr, hml, hown, hts, hlk, hK, hX, hout, hin, hst⟩ := id C
  have hw : ∀ {w9 : Cond}, w9 ∈ zx_T → w9.before _ s = true := fun h9 => hts _ (List.mem_cons_of_mem _ h9)
  have hW : ah_W G s.heap h0 s.heap [] := ⟨hB.1, hB.2.1, va_S.rf⟩
  have hm : ah_m h0 h0 := ah_m.rf
  have hcl : 0 + 0 ≤ 0 := by decide
  have hsl : 0 + 0 ≤ 0 := by decide
  have hl := lv_entry ([.ref a1, .ref a2, .int a3]) (n := 9) (Nat.le_of_ble_eq_true rfl)
  rw [lg_entry_eq]
  generalize (lg_sl ([.ref a1, .ref a2, .int a3]) ++ List.replicate (9 - (lg_sl ([.ref a1, .ref a2, .int a3])).length) Slot.unset).toArray = ls at hl ⊢
  have hl : lv_has ls 9 [(0, .ref a1), (1, .ref a2), (2, .int a3)] := hl
  unfold w_WH_becomeShiftedUp at w
  refine lv_iload_n hx hb d_WH_becomeShiftedUp_0 rfl (lv_at hl 2 rfl) ?_
  refine lv_bipush (v := 32) hx hb d_WH_becomeShiftedUp_1 (by decide) ?_
  refine lv_idiv hx hb d_WH_becomeShiftedUp_3 (by decide) ?_
  refine lv_topi (fun v4 ev4 => ?_)
  have w := w v4 ev4
  refine lv_istore_n (lv' := [(3, .int v4), (0, .ref a1), (1, .ref a2), (2, .int a3)]) hx hb d_WH_becomeShiftedUp_4 rfl hl (by decide) rfl (fun ls hl => ?_)
  refine lv_iload_n hx hb d_WH_becomeShiftedUp_5 rfl (lv_at hl 3 rfl) ?_
  refine lv_bipush (v := 32) hx hb d_WH_becomeShiftedUp_6 (by decide) ?_
  refine lv_irem hx hb d_WH_becomeShiftedUp_8 (by decide) ?_
  refine lv_topi (fun v5 ev5 => ?_)
  have w := w v5 ev5
  refine lv_istore (lv' := [(4, .int v5), (3, .int v4), (0, .ref a1), (1, .ref a2), (2, .int a3)]) hx hb d_WH_becomeShiftedUp_9 hl (by decide) rfl (fun ls hl => ?_)
  refine lv_aload_n hx hb d_WH_becomeShiftedUp_11 rfl (lv_at hl 3 rfl) ?_
  obtain ⟨t6, w⟩ := w
  refine hb_get (ci := 2) (C := "BigDesk$Whole") (T := T_WH) (N := 3) hx hb hts (fun w9 h9 => List.mem_cons_of_mem _ (u_WH w9 h9)) hown hK hW t6 rfl (by decide) 1 (by decide) (hw wd_37) (fun _ h9 => h9) (q := (0, 0)) rfl (v := .int (ah_I h0 0 a2)) rfl d_WH_becomeShiftedUp_12 ?_
  refine lv_iload_n hx hb d_WH_becomeShiftedUp_15 rfl (lv_at hl 1 rfl) ?_
  refine lv_iadd hx hb d_WH_becomeShiftedUp_16 ?_
  refine lv_iconst (v := 1) hx hb d_WH_becomeShiftedUp_17 (by decide) ?_
  refine lv_iadd hx hb d_WH_becomeShiftedUp_18 ?_
  refine lv_sipush (v := 258) hx hb d_WH_becomeShiftedUp_19 (by decide) ?_
  refine va_mmin hx hb (by rw [hml]; exact hl.1.symm) hown (hw wd_342) (hw wd_258) (hw wd_12) (hw wd_259) (Nat.le_of_ble_eq_true rfl) (Nat.le_of_ble_eq_true rfl) (by show _ ≤ 0; omega) (by show _ ≤ 0; omega) d_WH_becomeShiftedUp_22 ?_
  refine lv_topi (fun v7 ev7 => ?_)
  have w := w v7 ev7
  refine lv_istore (lv' := [(5, .int v7), (4, .int v5), (3, .int v4), (0, .ref a1), (1, .ref a2), (2, .int a3)]) hx hb d_WH_becomeShiftedUp_25 hl (by decide) rfl (fun ls hl => ?_)
  refine lv_iload hx hb d_WH_becomeShiftedUp_27 (lv_at hl 0 rfl) ?_
  refine lv_iconst (v := 1) hx hb d_WH_becomeShiftedUp_29 (by decide) ?_
  refine lv_isub hx hb d_WH_becomeShiftedUp_30 ?_
  refine lv_topi (fun v8 ev8 => ?_)
  have w := w v8 ev8
  refine lv_istore (lv' := [(6, .int v8), (5, .int v7), (4, .int v5), (3, .int v4), (0, .ref a1), (1, .ref a2), (2, .int a3)]) hx hb d_WH_becomeShiftedUp_31 hl (by decide) rfl (fun ls hl => ?_)
  obtain ⟨k47, w⟩ := w
  refine tl_WH_becomeShiftedUp_33 C hcl hsl (fun x40 x41 h42 H locs ls w hm hW hl => ?_) k47 a1 a2 v4 v5 v7 v8 h0 _ _ _ w hm hW (lv_sub hl [4, 5, 3, 2, 1, 0] rfl)
  · refine lv_aload_n hx hb d_WH_becomeShiftedUp_87 rfl (lv_at hl 0 rfl) ?_
    refine lv_iload hx hb d_WH_becomeShiftedUp_88 (lv_at hl 1 rfl) ?_
    obtain ⟨t43, w⟩ := w
    refine hb_callv (va_runV (As := [.int x41]) (rest := []) ⟨hx, hb, hml, hown, hts⟩ (m_WH_settle G x40 x41 h42 hst w) (cwV 1 hts (zx_gV wd_218 wd_219 wd_220 wd_2 wd_221) rfl rfl rfl (by decide +kernel) ⟨Nat.le_of_ble_eq_true rfl, Nat.le_of_ble_eq_true rfl⟩) (hb_preV hK hX hW t43 (by decide) rfl) rfl rfl hl.1 rfl (lv_room (Nat.le_of_ble_eq_true rfl)) d_WH_becomeShiftedUp_90 ⟨(by show _ ≤ 0; omega), (by show _ ≤ 0; omega)⟩) hW (fun h44 H locs hk hW => ?_)
    obtain ⟨w, mm45⟩ := hk
    have w := w mm45
    have hm := hm.tr mm45
    have t46 := mm45.tg t43 (by decide)
    exact hb_vret (K := fun h9 => K h9 ∧ ah_m h0 h9) hx hb hr hlk hK hX hW ⟨w, hm⟩ (by omega) (by omega) d_WH_becomeShiftedUp_93
set_option maxHeartbeats 4000000 in
set_option maxRecDepth 100000 in
theorem tl_WH_becomeShiftedDown_26 {p : Program} {l : Launch} {e : Env} {s : State} {m : MethodId} {args : Array Value} {below : List Frame} {meth : Method} {c : Code} {G : zG} (C : cx_C p l s m args meth c G y_WH_becomeShiftedDown b_WH_becomeShiftedDown 9 none "BigDesk$Whole") {K : ah_H → Prop} {h0 : ah_H} {cells slots : Nat} (hcl : cells + 0 ≤ 0) (hsl : slots + 0 ≤ 0) {xt_82 : Nat → Int32 → ah_H → Prop} (hc_xt_82 : ∀ (z0 : Nat) (z1 : Int32) (hz : ah_H) (H : Heap) (locs : List Loc) (ls : Array Slot), xt_82 z0 z1 hz → ah_m h0 hz → ah_W G s.heap hz H locs → lv_has ls 9 [(0, .ref z0), (5, .int z1)] → W p l e rm_WH_becomeShiftedDown s m args below meth c H locs cells slots (MQ below (va_Qv (fun h9 => K h9 ∧ ah_m h0 h9) (ah_B G) (fun q => G.2.2 ≤ q)) args s 0 0 (fun q => G.2.2 ≤ q)) (F0 m 82 ls [])) : ∀ (n : Nat) (x8 : Nat) (x9 : Nat) (x10 : Int32) (x11 : Int32) (x12 : Int32) (x13 : Int32) (h14 : ah_H) (H : Heap) (locs : List Loc) (ls : Array Slot), lp_WH_becomeShiftedDown_26 xt_82 K n x8 x9 x10 x11 x12 x13 h14 → ah_m h0 h14 → ah_W G s.heap h14 H locs → lv_has ls 9 [(0, .ref x8), (1, .ref x9), (3, .int x10), (4, .int x11), (5, .int x12), (6, .int x13)] → W p l e rm_WH_becomeShiftedDown s m args below meth c H locs cells slots (MQ below (va_Qv (fun h9 => K h9 ∧ ah_m h0 h9) (ah_B G) (fun q => G.2.2 ≤ q)) args s 0 0 (fun q => G.2.2 ≤ q)) (F0 m 26 ls []) := by
  obtain ⟨hx, hb, hr, hml, hown, hts, hlk, hK, hX, hout, hin, hst⟩ := id C
  have hw : ∀ {w9 : Cond}, w9 ∈ zx_T → w9.before args s = true := fun h9 => hts _ (List.mem_cons_of_mem _ h9)
  intro n
  induction n with
  | zero =>
    intro x8 x9 x10 x11 x12 x13 h14 H locs ls w
    exact absurd w (by intro z9; exact z9)
  | succ n ih =>
    intro x8 x9 x10 x11 x12 x13 h14 H locs ls w hm hW hl
    unfold lp_WH_becomeShiftedDown_26 at w
    refine lv_iload hx hb d_WH_becomeShiftedDown_26 (lv_at hl 5 rfl) ?_
    refine lv_iload hx hb d_WH_becomeShiftedDown_28 (lv_at hl 4 rfl) ?_
    refine lv_icmp_ge (tgt := 82) hx hb d_WH_becomeShiftedDown_30 (by decide) (fun c15 => ?_) (fun c15 => ?_)
    · have w := w.1 c15
      exact hc_xt_82 x8 x12 h14 _ _ _ w hm hW (lv_sub hl [0, 4] rfl)
    · have w := w.2 c15
      refine lv_aload_n hx hb d_WH_becomeShiftedDown_33 rfl (lv_at hl 1 rfl) ?_
      refine lv_iload hx hb d_WH_becomeShiftedDown_34 (lv_at hl 5 rfl) ?_
      refine lv_iload_n hx hb d_WH_becomeShiftedDown_36 rfl (lv_at hl 2 rfl) ?_
      refine lv_iadd hx hb d_WH_becomeShiftedDown_37 ?_
      refine lv_iconst (v := 1) hx hb d_WH_becomeShiftedDown_38 (by decide) ?_
      refine lv_iadd hx hb d_WH_becomeShiftedDown_39 ?_
      obtain ⟨t16, w⟩ := w
      refine hb_calll (va_runV (As := [.int ((x13 + x10) + (1 : Int32))]) (rest := []) ⟨hx, hb, hml, hown, hts⟩ (m_WH_at G x9 ((x13 + x10) + (1 : Int32)) h14 hst w) (cwV 1 hts (zx_gV wd_343 wd_344 wd_345 wd_2 wd_346) rfl rfl rfl (by decide +kernel) ⟨Nat.le_of_ble_eq_true rfl, Nat.le_of_ble_eq_true rfl⟩) (hb_preV hK hX hW t16 (by decide) rfl) rfl rfl hl.1 rfl (lv_room (Nat.le_of_ble_eq_true rfl)) d_WH_becomeShiftedDown_40 ⟨(by show _ ≤ 0; omega), (by show _ ≤ 0; omega)⟩) hW (fun r18 h17 H locs hk hW => ?_)
      obtain ⟨w, mm19⟩ := hk
      have w := w mm19
      have hm := hm.tr mm19
      have t20 := mm19.tg t16 (by decide)
      refine lv_bipush (v := 32) hx hb d_WH_becomeShiftedDown_43 (by decide) ?_
      refine lv_iload hx hb d_WH_becomeShiftedDown_45 (lv_at hl 3 rfl) ?_
      refine lv_isub hx hb d_WH_becomeShiftedDown_47 ?_
      refine lv_lshl hx hb d_WH_becomeShiftedDown_48 rfl ?_
      refine lv_topl (fun v21 ev21 => ?_)
      have w := w v21 ev21
      refine lv_lstore (lv' := [(7, .long v21), (0, .ref x8), (1, .ref x9), (3, .int x10), (4, .int x11), (5, .int x12), (6, .int x13)]) hx hb d_WH_becomeShiftedDown_49 hl (by decide) rfl (fun ls hl => ?_)
      refine lv_aload_n hx hb d_WH_becomeShiftedDown_51 rfl (lv_at hl 1 rfl) ?_
      obtain ⟨t22, w⟩ := w
      obtain ⟨q23, e24, w⟩ := w
      refine hb_get (ci := 2) (C := "BigDesk$Whole") (T := T_WH) (N := 3) hx hb hts (fun w9 h9 => List.mem_cons_of_mem _ (u_WH w9 h9)) hown hK hW t22 rfl (by decide) 0 (by decide) (hw wd_33) (fun _ h9 => h9) (q := (2, 5)) rfl (v := .ref q23) (ah_f_R e24) d_WH_becomeShiftedDown_52 ?_
      refine lv_iload hx hb d_WH_becomeShiftedDown_55 (lv_at hl 6 rfl) ?_
      refine lv_aload_n hx hb d_WH_becomeShiftedDown_57 rfl (lv_at hl 2 rfl) ?_
      refine lv_iload hx hb d_WH_becomeShiftedDown_58 (lv_at hl 6 rfl) ?_
      refine lv_iload_n hx hb d_WH_becomeShiftedDown_60 rfl (lv_at hl 3 rfl) ?_
      refine lv_iadd hx hb d_WH_becomeShiftedDown_61 ?_
      refine hb_calll (va_runV (As := [.int (x13 + x10)]) (rest := [.int x13, .ref q23]) ⟨hx, hb, hml, hown, hts⟩ (m_WH_at G x9 (x13 + x10) h17 hst w) (cwV 1 hts (zx_gV wd_343 wd_344 wd_345 wd_2 wd_346) rfl rfl rfl (by decide +kernel) ⟨Nat.le_of_ble_eq_true rfl, Nat.le_of_ble_eq_true rfl⟩) (hb_preV hK hX hW t20 (by decide) rfl) rfl rfl hl.1 rfl (lv_room (Nat.le_of_ble_eq_true rfl)) d_WH_becomeShiftedDown_62 ⟨(by show _ ≤ 0; omega), (by show _ ≤ 0; omega)⟩) hW (fun r26 h25 H locs hk hW => ?_)
      obtain ⟨w, mm27⟩ := hk
      have w := w mm27
      have hm := hm.tr mm27
      have t28 := mm27.tg t20 (by decide)
      have t29 := mm27.tg t22 (by decide)
      refine lv_iload hx hb d_WH_becomeShiftedDown_65 (lv_at hl 4 rfl) ?_
      refine lv_lushr hx hb d_WH_becomeShiftedDown_67 rfl ?_
      refine lv_lload hx hb d_WH_becomeShiftedDown_68 (lv_at hl 0 rfl) ?_
      refine lv_lor hx hb d_WH_becomeShiftedDown_70 ?_
      refine lv_ldc2 (v := 4294967295) hx hb hown (hw wd_217) d_WH_becomeShiftedDown_71 ?_
      refine lv_land hx hb d_WH_becomeShiftedDown_74 ?_
      refine lv_topl (fun v30 ev30 => ?_)
      have w := w v30 ev30
      obtain ⟨t31, w⟩ := w
      obtain ⟨i32, w⟩ := w
      refine hb_last hx hb hK hW t31 (by decide) (by decide) 2 rfl i32 d_WH_becomeShiftedDown_75 (fun H locs h33 eh33 hW => ?_)
      have w := w h33 eh33
      have mm34 : ah_m h25 h33 := ah_m.rf.st (by rw [eh33]; rfl) (by rw [eh33]; rfl)
      have hm := hm.tr mm34
      have t35 := mm34.tg t28 (by decide)
      have t36 := mm34.tg t29 (by decide)
      have t37 := mm34.tg t31 (by decide)
      obtain ⟨v38, ev38⟩ : ∃ y9 : Int32, y9 = x13 + 1 := ⟨_, rfl⟩
      have w := w v38 ev38
      refine lv_iinc (v := v38) (lv' := [(6, .int v38), (7, .long v21), (0, .ref x8), (1, .ref x9), (3, .int x10), (4, .int x11), (5, .int x12)]) hx hb d_WH_becomeShiftedDown_76 hl (k := 6) rfl (by rw [ev38]; rfl) (by decide) rfl (fun ls hl => ?_)
      refine lv_goto (tgt := 26) hx hb d_WH_becomeShiftedDown_79 (by decide) ?_
      exact ih x8 x9 x10 x11 x12 v38 h33 _ _ _ w hm hW (lv_sub hl [2, 3, 4, 5, 6, 0] rfl)
set_option maxHeartbeats 4000000 in
set_option maxRecDepth 100000 in
theorem m_WH_becomeShiftedDown {l : Launch} (G : zG) (a1 : Nat) (a2 : Nat) (a3 : Int32) (h0 : ah_H) {K : ah_H → Prop} (hst : l.stackTraces = false) (w : w_WH_becomeShiftedDown a1 a2 a3 h0 K) : Met l y_WH_becomeShiftedDown (Cond.code y_WH_becomeShiftedDown b_WH_becomeShiftedDown 9 none :: zx_T) rm_WH_becomeShiftedDown (va_Pc [.ref a1, .ref a2, .int a3] (ah_B G h0)) (va_Qv (fun h9 => K h9 ∧ ah_m h0 h9) (ah_B G) (fun q => G.2.2 ≤ q)) 0 0 (fun q => G.2.2 ≤ q) := by
  refine Met.ofW (cc := b_WH_becomeShiftedDown) (maxL := 9) (ret := none) (by decide) rfl ?_
  intro p e s m args below meth c s₁ B hml hv
  have hout : ∀ x ∈ c.exceptionTable.toList, False := cx_out B (atoms_spec B.pre _ List.mem_cons_self)
  obtain ⟨rfl, hB⟩ := hv
  have C : cx_C p l s m _ meth c G y_WH_becomeShiftedDown b_WH_becomeShiftedDown 9 none "BigDesk$Whole" := ⟨B.exec, B.bytes, B.returns, hml, findClass_of_methodNamed B.named, atoms_spec B.pre, B.notSynchronized, hB.2.2.1, hB.2.2.2, hout, fun z9 => (name_of_methodNamed B.named B.method).1.trans z9, hst⟩
  obtain ⟨hx, hb, hr, hml, hown, hts, hlk, hK, hX, hout, hin, hst⟩ := id C
  have hw : ∀ {w9 : Cond}, w9 ∈ zx_T → w9.before _ s = true := fun h9 => hts _ (List.mem_cons_of_mem _ h9)
  have hW : ah_W G s.heap h0 s.heap [] := ⟨hB.1, hB.2.1, va_S.rf⟩
  have hm : ah_m h0 h0 := ah_m.rf
  have hcl : 0 + 0 ≤ 0 := by decide
  have hsl : 0 + 0 ≤ 0 := by decide
  have hl := lv_entry ([.ref a1, .ref a2, .int a3]) (n := 9) (Nat.le_of_ble_eq_true rfl)
  rw [lg_entry_eq]
  generalize (lg_sl ([.ref a1, .ref a2, .int a3]) ++ List.replicate (9 - (lg_sl ([.ref a1, .ref a2, .int a3])).length) Slot.unset).toArray = ls at hl ⊢
  have hl : lv_has ls 9 [(0, .ref a1), (1, .ref a2), (2, .int a3)] := hl
  unfold w_WH_becomeShiftedDown at w
  refine lv_iload_n hx hb d_WH_becomeShiftedDown_0 rfl (lv_at hl 2 rfl) ?_
  refine lv_bipush (v := 32) hx hb d_WH_becomeShiftedDown_1 (by decide) ?_
  refine lv_idiv hx hb d_WH_becomeShiftedDown_3 (by decide) ?_
  refine lv_topi (fun v4 ev4 => ?_)
  have w := w v4 ev4
  refine lv_istore_n (lv' := [(3, .int v4), (0, .ref a1), (1, .ref a2), (2, .int a3)]) hx hb d_WH_becomeShiftedDown_4 rfl hl (by decide) rfl (fun ls hl => ?_)
  refine lv_iload_n hx hb d_WH_becomeShiftedDown_5 rfl (lv_at hl 3 rfl) ?_
  refine lv_bipush (v := 32) hx hb d_WH_becomeShiftedDown_6 (by decide) ?_
  refine lv_irem hx hb d_WH_becomeShiftedDown_8 (by decide) ?_
  refine lv_topi (fun v5 ev5 => ?_)
  have w := w v5 ev5
  refine lv_istore (lv' := [(4, .int v5), (3, .int v4), (0, .ref a1), (1, .ref a2), (2, .int a3)]) hx hb d_WH_becomeShiftedDown_9 hl (by decide) rfl (fun ls hl => ?_)
  refine lv_aload_n hx hb d_WH_becomeShiftedDown_11 rfl (lv_at hl 3 rfl) ?_
  obtain ⟨t6, w⟩ := w
  refine hb_get (ci := 2) (C := "BigDesk$Whole") (T := T_WH) (N := 3) hx hb hts (fun w9 h9 => List.mem_cons_of_mem _ (u_WH w9 h9)) hown hK hW t6 rfl (by decide) 1 (by decide) (hw wd_37) (fun _ h9 => h9) (q := (0, 0)) rfl (v := .int (ah_I h0 0 a2)) rfl d_WH_becomeShiftedDown_12 ?_
  refine lv_iload_n hx hb d_WH_becomeShiftedDown_15 rfl (lv_at hl 1 rfl) ?_
  refine lv_isub hx hb d_WH_becomeShiftedDown_16 ?_
  refine lv_iconst (v := 0) hx hb d_WH_becomeShiftedDown_17 (by decide) ?_
  refine va_mmax hx hb (by rw [hml]; exact hl.1.symm) hown (hw wd_359) (hw wd_255) (hw wd_12) (hw wd_256) (Nat.le_of_ble_eq_true rfl) (Nat.le_of_ble_eq_true rfl) (by show _ ≤ 0; omega) (by show _ ≤ 0; omega) d_WH_becomeShiftedDown_18 ?_
  refine lv_topi (fun v7 ev7 => ?_)
  have w := w v7 ev7
  refine lv_istore (lv' := [(5, .int v7), (4, .int v5), (3, .int v4), (0, .ref a1), (1, .ref a2), (2, .int a3)]) hx hb d_WH_becomeShiftedDown_21 hl (by decide) rfl (fun ls hl => ?_)
  refine lv_iconst (v := 0) hx hb d_WH_becomeShiftedDown_23 (by decide) ?_
  refine lv_istore (lv' := [(6, .int (0 : Int32)), (5, .int v7), (4, .int v5), (3, .int v4), (0, .ref a1), (1, .ref a2), (2, .int a3)]) hx hb d_WH_becomeShiftedDown_24 hl (by decide) rfl (fun ls hl => ?_)
  obtain ⟨k46, w⟩ := w
  refine tl_WH_becomeShiftedDown_26 C hcl hsl (fun x39 x40 h41 H locs ls w hm hW hl => ?_) k46 a1 a2 v4 v5 v7 (0 : Int32) h0 _ _ _ w hm hW (lv_sub hl [4, 5, 3, 2, 1, 0] rfl)
  · refine lv_aload_n hx hb d_WH_becomeShiftedDown_82 rfl (lv_at hl 0 rfl) ?_
    refine lv_iload hx hb d_WH_becomeShiftedDown_83 (lv_at hl 1 rfl) ?_
    obtain ⟨t42, w⟩ := w
    refine hb_callv (va_runV (As := [.int x40]) (rest := []) ⟨hx, hb, hml, hown, hts⟩ (m_WH_settle G x39 x40 h41 hst w) (cwV 1 hts (zx_gV wd_218 wd_219 wd_220 wd_2 wd_221) rfl rfl rfl (by decide +kernel) ⟨Nat.le_of_ble_eq_true rfl, Nat.le_of_ble_eq_true rfl⟩) (hb_preV hK hX hW t42 (by decide) rfl) rfl rfl hl.1 rfl (lv_room (Nat.le_of_ble_eq_true rfl)) d_WH_becomeShiftedDown_85 ⟨(by show _ ≤ 0; omega), (by show _ ≤ 0; omega)⟩) hW (fun h43 H locs hk hW => ?_)
    obtain ⟨w, mm44⟩ := hk
    have w := w mm44
    have hm := hm.tr mm44
    have t45 := mm44.tg t42 (by decide)
    exact hb_vret (K := fun h9 => K h9 ∧ ah_m h0 h9) hx hb hr hlk hK hX hW ⟨w, hm⟩ (by omega) (by omega) d_WH_becomeShiftedDown_88
set_option maxHeartbeats 4000000 in
set_option maxRecDepth 100000 in
theorem tl_WH_endingZeros_2 {p : Program} {l : Launch} {e : Env} {s : State} {m : MethodId} {args : Array Value} {below : List Frame} {meth : Method} {c : Code} {G : zG} (C : cx_C p l s m args meth c G y_WH_endingZeros b_WH_endingZeros 4 (some .int) "BigDesk$Whole") {K : Int32 → ah_H → Prop} {h0 : ah_H} {cells slots : Nat} (hcl : cells + 0 ≤ 0) (hsl : slots + 0 ≤ 0) {xt_23 : Int32 → Int64 → ah_H → Prop} {xt_47 : ah_H → Prop} (hc_xt_23 : ∀ (z0 : Int32) (z1 : Int64) (hz : ah_H) (H : Heap) (locs : List Loc) (ls : Array Slot), xt_23 z0 z1 hz → ah_m h0 hz → ah_W G s.heap hz H locs → lv_has ls 4 [(1, .int z0), (2, .long z1)] → W p l e rm_WH_endingZeros s m args below meth c H locs cells slots (MQ below (va_Qi (fun r9 h9 => K r9 h9 ∧ ah_m h0 h9) (ah_B G) (fun q => G.2.2 ≤ q)) args s 0 0 (fun q => G.2.2 ≤ q)) (F0 m 23 ls [])) (hc_xt_47 : ∀ (hz : ah_H) (H : Heap) (locs : List Loc) (ls : Array Slot), xt_47 hz → ah_m h0 hz → ah_W G s.heap hz H locs → lv_has ls 4 [] → W p l e rm_WH_endingZeros s m args below meth c H locs cells slots (MQ below (va_Qi (fun r9 h9 => K r9 h9 ∧ ah_m h0 h9) (ah_B G) (fun q => G.2.2 ≤ q)) args s 0 0 (fun q => G.2.2 ≤ q)) (F0 m 47 ls [])) : ∀ (n : Nat) (x2 : Nat) (x3 : Int32) (h4 : ah_H) (H : Heap) (locs : List Loc) (ls : Array Slot), lp_WH_endingZeros_2 xt_23 xt_47 K n x2 x3 h4 → ah_m h0 h4 → ah_W G s.heap h4 H locs → lv_has ls 4 [(0, .ref x2), (1, .int x3)] → W p l e rm_WH_endingZeros s m args below meth c H locs cells slots (MQ below (va_Qi (fun r9 h9 => K r9 h9 ∧ ah_m h0 h9) (ah_B G) (fun q => G.2.2 ≤ q)) args s 0 0 (fun q => G.2.2 ≤ q)) (F0 m 2 ls []) := by
  obtain ⟨hx, hb, hr, hml, hown, hts, hlk, hK, hX, hout, hin, hst⟩ := id C
  have hw : ∀ {w9 : Cond}, w9 ∈ zx_T → w9.before args s = true := fun h9 => hts _ (List.mem_cons_of_mem _ h9)
  intro n
  induction n with
  | zero =>
    intro x2 x3 h4 H locs ls w
    exact absurd w (by intro z9; exact z9)
  | succ n ih =>
    intro x2 x3 h4 H locs ls w hm hW hl
    unfold lp_WH_endingZeros_2 at w
    refine lv_iload_n hx hb d_WH_endingZeros_2 rfl (lv_at hl 1 rfl) ?_
    refine lv_aload_n hx hb d_WH_endingZeros_3 rfl (lv_at hl 0 rfl) ?_
    obtain ⟨t5, w⟩ := w
    refine hb_get (ci := 2) (C := "BigDesk$Whole") (T := T_WH) (N := 3) hx hb hts (fun w9 h9 => List.mem_cons_of_mem _ (u_WH w9 h9)) hown hK hW t5 rfl (by decide) 1 (by decide) (hw wd_37) (fun _ h9 => h9) (q := (0, 0)) rfl (v := .int (ah_I h4 0 x2)) rfl d_WH_endingZeros_4 ?_
    refine lv_icmp_ge (tgt := 47) hx hb d_WH_endingZeros_7 (by decide) (fun c6 => ?_) (fun c6 => ?_)
    · have w := w.1 c6
      exact hc_xt_47  h4 _ _ _ w hm hW (lv_sub hl [] rfl)
    · have w := w.2 c6
      refine lv_aload_n hx hb d_WH_endingZeros_10 rfl (lv_at hl 0 rfl) ?_
      obtain ⟨q7, e8, w⟩ := w
      refine hb_get (ci := 2) (C := "BigDesk$Whole") (T := T_WH) (N := 3) hx hb hts (fun w9 h9 => List.mem_cons_of_mem _ (u_WH w9 h9)) hown hK hW t5 rfl (by decide) 0 (by decide) (hw wd_33) (fun _ h9 => h9) (q := (2, 5)) rfl (v := .ref q7) (ah_f_R e8) d_WH_endingZeros_11 ?_
      refine lv_iload_n hx hb d_WH_endingZeros_14 rfl (lv_at hl 1 rfl) ?_
      obtain ⟨t9, w⟩ := w
      obtain ⟨i10, w⟩ := w
      refine hb_lald hx hb hK hW t9 (by decide) (by decide) 2 rfl i10 d_WH_endingZeros_15 ?_
      refine lv_topl (fun v11 ev11 => ?_)
      have w := w v11 ev11
      refine lv_lstore_n (lv' := [(2, .long v11), (0, .ref x2), (1, .int x3)]) hx hb d_WH_endingZeros_16 rfl hl (by decide) rfl (fun ls hl => ?_)
      refine lv_lload_n hx hb d_WH_endingZeros_17 rfl (lv_at hl 0 rfl) ?_
      refine lv_lconst (v := 0) hx hb d_WH_endingZeros_18 (by decide) ?_
      refine hb_lcmp_eq (tgt := 41) hx hb d_WH_endingZeros_19 d_WH_endingZeros_20 (by decide) (fun c12 => ?_) (fun c12 => ?_)
      · have w := w.1 c12
        obtain ⟨v13, ev13⟩ : ∃ y9 : Int32, y9 = x3 + 1 := ⟨_, rfl⟩
        have w := w v13 ev13
        refine lv_iinc (v := v13) (lv' := [(1, .int v13), (2, .long v11), (0, .ref x2)]) hx hb d_WH_endingZeros_41 hl (k := 2) rfl (by rw [ev13]; rfl) (by decide) rfl (fun ls hl => ?_)
        refine lv_goto (tgt := 2) hx hb d_WH_endingZeros_44 (by decide) ?_
        exact ih x2 v13 h4 _ _ _ w hm hW (lv_sub hl [2, 0] rfl)
      · have w := w.2 c12
        exact hc_xt_23 x3 v11 h4 _ _ _ w hm hW (lv_sub hl [2, 0] rfl)
set_option maxHeartbeats 4000000 in
set_option maxRecDepth 100000 in
theorem m_WH_endingZeros {l : Launch} (G : zG) (a1 : Nat) (h0 : ah_H) {K : Int32 → ah_H → Prop} (hst : l.stackTraces = false) (w : w_WH_endingZeros a1 h0 K) : Met l y_WH_endingZeros (Cond.code y_WH_endingZeros b_WH_endingZeros 4 (some .int) :: zx_T) rm_WH_endingZeros (va_Pc [.ref a1] (ah_B G h0)) (va_Qi (fun r9 h9 => K r9 h9 ∧ ah_m h0 h9) (ah_B G) (fun q => G.2.2 ≤ q)) 0 0 (fun q => G.2.2 ≤ q) := by
  refine Met.ofW (cc := b_WH_endingZeros) (maxL := 4) (ret := (some .int)) (by decide) rfl ?_
  intro p e s m args below meth c s₁ B hml hv
  have hout : ∀ x ∈ c.exceptionTable.toList, False := cx_out B (atoms_spec B.pre _ List.mem_cons_self)
  obtain ⟨rfl, hB⟩ := hv
  have C : cx_C p l s m _ meth c G y_WH_endingZeros b_WH_endingZeros 4 (some .int) "BigDesk$Whole" := ⟨B.exec, B.bytes, B.returns, hml, findClass_of_methodNamed B.named, atoms_spec B.pre, B.notSynchronized, hB.2.2.1, hB.2.2.2, hout, fun z9 => (name_of_methodNamed B.named B.method).1.trans z9, hst⟩
  obtain ⟨hx, hb, hr, hml, hown, hts, hlk, hK, hX, hout, hin, hst⟩ := id C
  have hw : ∀ {w9 : Cond}, w9 ∈ zx_T → w9.before _ s = true := fun h9 => hts _ (List.mem_cons_of_mem _ h9)
  have hW : ah_W G s.heap h0 s.heap [] := ⟨hB.1, hB.2.1, va_S.rf⟩
  have hm : ah_m h0 h0 := ah_m.rf
  have hcl : 0 + 0 ≤ 0 := by decide
  have hsl : 0 + 0 ≤ 0 := by decide
  have hl := lv_entry ([.ref a1]) (n := 4) (Nat.le_of_ble_eq_true rfl)
  rw [lg_entry_eq]
  generalize (lg_sl ([.ref a1]) ++ List.replicate (4 - (lg_sl ([.ref a1])).length) Slot.unset).toArray = ls at hl ⊢
  have hl : lv_has ls 4 [(0, .ref a1)] := hl
  unfold w_WH_endingZeros at w
  refine lv_iconst (v := 0) hx hb d_WH_endingZeros_0 (by decide) ?_
  refine lv_istore_n (lv' := [(1, .int (0 : Int32)), (0, .ref a1)]) hx hb d_WH_endingZeros_1 rfl hl (by decide) rfl (fun ls hl => ?_)
  obtain ⟨k21, w⟩ := w
  refine tl_WH_endingZeros_2 C hcl hsl (fun x14 x15 h16 H locs ls w hm hW hl => ?_) (fun  h20 H locs ls w hm hW hl => ?_) k21 a1 (0 : Int32) h0 _ _ _ w hm hW (lv_sub hl [1, 0] rfl)
  · refine lv_bipush (v := 32) hx hb d_WH_endingZeros_23 (by decide) ?_
    refine lv_iload_n hx hb d_WH_endingZeros_25 rfl (lv_at hl 0 rfl) ?_
    refine lv_imul hx hb d_WH_endingZeros_26 ?_
    refine lv_lload_n hx hb d_WH_endingZeros_27 rfl (lv_at hl 1 rfl) ?_
    refine lv_ldc2 (v := -1) hx hb hown (hw wd_364) d_WH_endingZeros_28 ?_
    refine lv_lxor hx hb d_WH_endingZeros_31 ?_
    refine lv_lload_n hx hb d_WH_endingZeros_32 rfl (lv_at hl 1 rfl) ?_
    refine lv_lconst (v := 1) hx hb d_WH_endingZeros_33 (by decide) ?_
    refine lv_lsub hx hb d_WH_endingZeros_34 ?_
    refine lv_land hx hb d_WH_endingZeros_35 ?_
    refine hb_calli (va_runS (As := [.long ((x15 ^^^ (-1 : Int64)) &&& (x15 - (1 : Int64)))]) (rest := [.int ((32 : Int32) * x14)]) ⟨hx, hb, hml, hown, hts⟩ (m_JL_bitCount G ((x15 ^^^ (-1 : Int64)) &&& (x15 - (1 : Int64))) h16 hst w) (va_cwS 1 hts (zx_gS wd_365 wd_366 wd_14 wd_367) rfl rfl rfl (by decide +kernel) ⟨Nat.le_of_ble_eq_true rfl, Nat.le_of_ble_eq_true rfl⟩) (hb_preS hK hX hW) rfl rfl hl.1 rfl (lv_room (Nat.le_of_ble_eq_true rfl)) d_WH_endingZeros_36 ⟨(by show _ ≤ 0; omega), (by show _ ≤ 0; omega)⟩) hW (fun r18 h17 H locs hk hW => ?_)
    obtain ⟨w, mm19⟩ := hk
    have w := w mm19
    have hm := hm.tr mm19
    refine lv_iadd hx hb d_WH_endingZeros_39 ?_
    exact hb_iret (K := fun r9 h9 => K r9 h9 ∧ ah_m h0 h9) hx hb hr hlk hK hX hW ⟨w, hm⟩ (by omega) (by omega) d_WH_endingZeros_40
  · refine lv_iconst (v := 0) hx hb d_WH_endingZeros_47 (by decide) ?_
    exact hb_iret (K := fun r9 h9 => K r9 h9 ∧ ah_m h0 h9) hx hb hr hlk hK hX hW ⟨w, hm⟩ (by omega) (by omega) d_WH_endingZeros_48
set_option maxHeartbeats 4000000 in
set_option maxRecDepth 100000 in
theorem tl_WH_addOne_2 {p : Program} {l : Launch} {e : Env} {s : State} {m : MethodId} {args : Array Value} {below : List Frame} {meth : Method} {c : Code} {G : zG} (C : cx_C p l s m args meth c G y_WH_addOne b_WH_addOne 2 none "BigDesk$Whole") {K : ah_H → Prop} {h0 : ah_H} {cells slots : Nat} (hcl : cells + 0 ≤ 0) (hsl : slots + 0 ≤ 0) {xt_36 : Nat → Int32 → ah_H → Prop} (hc_xt_36 : ∀ (z0 : Nat) (z1 : Int32) (hz : ah_H) (H : Heap) (locs : List Loc) (ls : Array Slot), xt_36 z0 z1 hz → ah_m h0 hz → ah_W G s.heap hz H locs → lv_has ls 2 [(0, .ref z0), (1, .int z1)] → W p l e rm_WH_addOne s m args below meth c H locs cells slots (MQ below (va_Qv (fun h9 => K h9 ∧ ah_m h0 h9) (ah_B G) (fun q => G.2.2 ≤ q)) args s 0 0 (fun q => G.2.2 ≤ q)) (F0 m 36 ls [])) : ∀ (n : Nat) (x2 : Nat) (x3 : Int32) (h4 : ah_H) (H : Heap) (locs : List Loc) (ls : Array Slot), lp_WH_addOne_2 xt_36 K n x2 x3 h4 → ah_m h0 h4 → ah_W G s.heap h4 H locs → lv_has ls 2 [(0, .ref x2), (1, .int x3)] → W p l e rm_WH_addOne s m args below meth c H locs cells slots (MQ below (va_Qv (fun h9 => K h9 ∧ ah_m h0 h9) (ah_B G) (fun q => G.2.2 ≤ q)) args s 0 0 (fun q => G.2.2 ≤ q)) (F0 m 2 ls []) := by
  obtain ⟨hx, hb, hr, hml, hown, hts, hlk, hK, hX, hout, hin, hst⟩ := id C
  have hw : ∀ {w9 : Cond}, w9 ∈ zx_T → w9.before args s = true := fun h9 => hts _ (List.mem_cons_of_mem _ h9)
  intro n
  induction n with
  | zero =>
    intro x2 x3 h4 H locs ls w
    exact absurd w (by intro z9; exact z9)
  | succ n ih =>
    intro x2 x3 h4 H locs ls w hm hW hl
    unfold lp_WH_addOne_2 at w
    refine lv_iload_n hx hb d_WH_addOne_2 rfl (lv_at hl 1 rfl) ?_
    refine lv_aload_n hx hb d_WH_addOne_3 rfl (lv_at hl 0 rfl) ?_
    obtain ⟨t5, w⟩ := w
    refine hb_get (ci := 2) (C := "BigDesk$Whole") (T := T_WH) (N := 3) hx hb hts (fun w9 h9 => List.mem_cons_of_mem _ (u_WH w9 h9)) hown hK hW t5 rfl (by decide) 1 (by decide) (hw wd_37) (fun _ h9 => h9) (q := (0, 0)) rfl (v := .int (ah_I h4 0 x2)) rfl d_WH_addOne_4 ?_
    refine lv_icmp_ge (tgt := 36) hx hb d_WH_addOne_7 (by decide) (fun c6 => ?_) (fun c6 => ?_)
    · have w := w.1 c6
      exact hc_xt_36 x2 x3 h4 _ _ _ w hm hW (lv_sub hl [0, 1] rfl)
    · have w := w.2 c6
      refine lv_aload_n hx hb d_WH_addOne_10 rfl (lv_at hl 0 rfl) ?_
      obtain ⟨q7, e8, w⟩ := w
      refine hb_get (ci := 2) (C := "BigDesk$Whole") (T := T_WH) (N := 3) hx hb hts (fun w9 h9 => List.mem_cons_of_mem _ (u_WH w9 h9)) hown hK hW t5 rfl (by decide) 0 (by decide) (hw wd_33) (fun _ h9 => h9) (q := (2, 5)) rfl (v := .ref q7) (ah_f_R e8) d_WH_addOne_11 ?_
      refine lv_iload_n hx hb d_WH_addOne_14 rfl (lv_at hl 1 rfl) ?_
      obtain ⟨t9, w⟩ := w
      obtain ⟨i10, w⟩ := w
      refine hb_lald hx hb hK hW t9 (by decide) (by decide) 2 rfl i10 d_WH_addOne_15 ?_
      refine lv_ldc2 (v := 4294967295) hx hb hown (hw wd_217) d_WH_addOne_16 ?_
      refine hb_lcmp_ne (tgt := 36) hx hb d_WH_addOne_19 d_WH_addOne_20 (by decide) (fun c11 => ?_) (fun c11 => ?_)
      · have w := w.1 c11
        exact hc_xt_36 x2 x3 h4 _ _ _ w hm hW (lv_sub hl [0, 1] rfl)
      · have w := w.2 c11
        refine lv_aload_n hx hb d_WH_addOne_23 rfl (lv_at hl 0 rfl) ?_
        obtain ⟨q12, e13, w⟩ := w
        refine hb_get (ci := 2) (C := "BigDesk$Whole") (T := T_WH) (N := 3) hx hb hts (fun w9 h9 => List.mem_cons_of_mem _ (u_WH w9 h9)) hown hK hW t5 rfl (by decide) 0 (by decide) (hw wd_33) (fun _ h9 => h9) (q := (2, 5)) rfl (v := .ref q12) (ah_f_R e13) d_WH_addOne_24 ?_
        refine lv_iload_n hx hb d_WH_addOne_27 rfl (lv_at hl 1 rfl) ?_
        refine lv_lconst (v := 0) hx hb d_WH_addOne_28 (by decide) ?_
        obtain ⟨t14, w⟩ := w
        obtain ⟨i15, w⟩ := w
        refine hb_last hx hb hK hW t14 (by decide) (by decide) 2 rfl i15 d_WH_addOne_29 (fun H locs h16 eh16 hW => ?_)
        have w := w h16 eh16
        have mm17 : ah_m h4 h16 := ah_m.rf.st (by rw [eh16]; rfl) (by rw [eh16]; rfl)
        have hm := hm.tr mm17
        have t18 := mm17.tg t5 (by decide)
        have t19 := mm17.tg t9 (by decide)
        have t20 := mm17.tg t14 (by decide)
        obtain ⟨v21, ev21⟩ : ∃ y9 : Int32, y9 = x3 + 1 := ⟨_, rfl⟩
        have w := w v21 ev21
        refine lv_iinc (v := v21) (lv' := [(1, .int v21), (0, .ref x2)]) hx hb d_WH_addOne_30 hl (k := 1) rfl (by rw [ev21]; rfl) (by decide) rfl (fun ls hl => ?_)
        refine lv_goto (tgt := 2) hx hb d_WH_addOne_33 (by decide) ?_
        exact ih x2 v21 h16 _ _ _ w hm hW (lv_sub hl [1, 0] rfl)
set_option maxHeartbeats 4000000 in
set_option maxRecDepth 100000 in
theorem tb_WH_addOne_67 {p : Program} {l : Launch} {e : Env} {s : State} {m : MethodId} {args : Array Value} {below : List Frame} {meth : Method} {c : Code} {G : zG} (C : cx_C p l s m args meth c G y_WH_addOne b_WH_addOne 2 none "BigDesk$Whole") {K : ah_H → Prop} {h0 : ah_H} {cells slots : Nat} (hcl : cells + 0 ≤ 0) (hsl : slots + 0 ≤ 0)   (h29 : ah_H) (H : Heap) (locs : List Loc) (ls : Array Slot) (w : bk_WH_addOne_67 K h29) (hm : ah_m h0 h29) (hW : ah_W G s.heap h29 H locs) (hl : lv_has ls 2 []) : W p l e rm_WH_addOne s m args below meth c H locs cells slots (MQ below (va_Qv (fun h9 => K h9 ∧ ah_m h0 h9) (ah_B G) (fun q => G.2.2 ≤ q)) args s 0 0 (fun q => G.2.2 ≤ q)) (F0 m 67 ls []) := by
  unfold bk_WH_addOne_67 at w
  obtain ⟨hx, hb, hr, hml, hown, hts, hlk, hK, hX, hout, hin, hst⟩ := id C
  have hw : ∀ {w9 : Cond}, w9 ∈ zx_T → w9.before args s = true := fun h9 => hts _ (List.mem_cons_of_mem _ h9)
  exact hb_vret (K := fun h9 => K h9 ∧ ah_m h0 h9) hx hb hr hlk hK hX hW ⟨w, hm⟩ (by omega) (by omega) d_WH_addOne_67
set_option maxHeartbeats 4000000 in
set_option maxRecDepth 100000 in
theorem tb_WH_addOne_36 {p : Program} {l : Launch} {e : Env} {s : State} {m : MethodId} {args : Array Value} {below : List Frame} {meth : Method} {c : Code} {G : zG} (C : cx_C p l s m args meth c G y_WH_addOne b_WH_addOne 2 none "BigDesk$Whole") {K : ah_H → Prop} {h0 : ah_H} {cells slots : Nat} (hcl : cells + 0 ≤ 0) (hsl : slots + 0 ≤ 0)  (x25 : Nat) (x26 : Int32) (h27 : ah_H) (H : Heap) (locs : List Loc) (ls : Array Slot) (w : bk_WH_addOne_36 K x25 x26 h27) (hm : ah_m h0 h27) (hW : ah_W G s.heap h27 H locs) (hl : lv_has ls 2 [(0, .ref x25), (1, .int x26)]) : W p l e rm_WH_addOne s m args below meth c H locs cells slots (MQ below (va_Qv (fun h9 => K h9 ∧ ah_m h0 h9) (ah_B G) (fun q => G.2.2 ≤ q)) args s 0 0 (fun q => G.2.2 ≤ q)) (F0 m 36 ls []) := by
  unfold bk_WH_addOne_36 at w
  obtain ⟨hx, hb, hr, hml, hown, hts, hlk, hK, hX, hout, hin, hst⟩ := id C
  have hw : ∀ {w9 : Cond}, w9 ∈ zx_T → w9.before args s = true := fun h9 => hts _ (List.mem_cons_of_mem _ h9)
  refine lv_iload_n hx hb d_WH_addOne_36 rfl (lv_at hl 1 rfl) ?_
  refine lv_sipush (v := 258) hx hb d_WH_addOne_37 (by decide) ?_
  refine lv_icmp_ge (tgt := 67) hx hb d_WH_addOne_40 (by decide) (fun c28 => ?_) (fun c28 => ?_)
  · have w := w.1 c28
    exact tb_WH_addOne_67 C (by omega) (by omega)   h27 _ _ _ w hm hW (lv_sub hl [] rfl)
  · have w := w.2 c28
    refine lv_aload_n hx hb d_WH_addOne_43 rfl (lv_at hl 0 rfl) ?_
    obtain ⟨t30, w⟩ := w
    obtain ⟨q31, e32, w⟩ := w
    refine hb_get (ci := 2) (C := "BigDesk$Whole") (T := T_WH) (N := 3) hx hb hts (fun w9 h9 => List.mem_cons_of_mem _ (u_WH w9 h9)) hown hK hW t30 rfl (by decide) 0 (by decide) (hw wd_33) (fun _ h9 => h9) (q := (2, 5)) rfl (v := .ref q31) (ah_f_R e32) d_WH_addOne_44 ?_
    refine lv_iload_n hx hb d_WH_addOne_47 rfl (lv_at hl 1 rfl) ?_
    refine lv_dup2_11 hx hb d_WH_addOne_48 rfl rfl ?_
    obtain ⟨t33, w⟩ := w
    obtain ⟨i34, w⟩ := w
    refine hb_lald hx hb hK hW t33 (by decide) (by decide) 2 rfl i34 d_WH_addOne_49 ?_
    refine lv_lconst (v := 1) hx hb d_WH_addOne_50 (by decide) ?_
    refine lv_ladd hx hb d_WH_addOne_51 ?_
    refine lv_topl (fun v35 ev35 => ?_)
    have w := w v35 ev35
    obtain ⟨i36, w⟩ := w
    refine hb_last hx hb hK hW t33 (by decide) (by decide) 2 rfl i36 d_WH_addOne_52 (fun H locs h37 eh37 hW => ?_)
    have w := w h37 eh37
    have mm38 : ah_m h27 h37 := ah_m.rf.st (by rw [eh37]; rfl) (by rw [eh37]; rfl)
    have hm := hm.tr mm38
    have t39 := mm38.tg t30 (by decide)
    have t40 := mm38.tg t33 (by decide)
    refine lv_aload_n hx hb d_WH_addOne_53 rfl (lv_at hl 0 rfl) ?_
    refine lv_aload_n hx hb d_WH_addOne_54 rfl (lv_at hl 0 rfl) ?_
    refine hb_get (ci := 2) (C := "BigDesk$Whole") (T := T_WH) (N := 3) hx hb hts (fun w9 h9 => List.mem_cons_of_mem _ (u_WH w9 h9)) hown hK hW t39 rfl (by decide) 1 (by decide) (hw wd_37) (fun _ h9 => h9) (q := (0, 0)) rfl (v := .int (ah_I h37 0 x25)) rfl d_WH_addOne_55 ?_
    refine lv_iload_n hx hb d_WH_addOne_58 rfl (lv_at hl 1 rfl) ?_
    refine lv_iconst (v := 1) hx hb d_WH_addOne_59 (by decide) ?_
    refine lv_iadd hx hb d_WH_addOne_60 ?_
    refine va_mmax hx hb (by rw [hml]; exact hl.1.symm) hown (hw wd_359) (hw wd_255) (hw wd_12) (hw wd_256) (Nat.le_of_ble_eq_true rfl) (Nat.le_of_ble_eq_true rfl) (by show _ ≤ 0; omega) (by show _ ≤ 0; omega) d_WH_addOne_61 ?_
    refine lv_topi (fun v41 ev41 => ?_)
    have w := w v41 ev41
    refine hb_put (ci := 2) (C := "BigDesk$Whole") (T := T_WH) (N := 3) hx hb hts (fun w9 h9 => List.mem_cons_of_mem _ (u_WH w9 h9)) t_WH o_WH n_WH hown hK hW t39 rfl (by decide) 1 (by decide) (hw wd_37) (fun _ h9 => h9) rfl (ty := t_WH 1) (by decide +kernel) (q := (0, 0)) rfl (by decide) (v := .int v41) rfl rfl (ah_one_I h37 0 x25 v41) d_WH_addOne_64 (fun H locs h42 eh42 hW => ?_)
    have w := w h42 eh42
    have mm43 : ah_m h37 h42 := ah_m.rf.st (by rw [eh42]; rfl) (by rw [eh42]; rfl)
    have hm := hm.tr mm43
    have t44 := mm43.tg t39 (by decide)
    have t45 := mm43.tg t40 (by decide)
    exact tb_WH_addOne_67 C (by omega) (by omega)   h42 _ _ _ w hm hW (lv_sub hl [] rfl)
set_option maxHeartbeats 4000000 in
set_option maxRecDepth 100000 in
theorem m_WH_addOne {l : Launch} (G : zG) (a1 : Nat) (h0 : ah_H) {K : ah_H → Prop} (hst : l.stackTraces = false) (w : w_WH_addOne a1 h0 K) : Met l y_WH_addOne (Cond.code y_WH_addOne b_WH_addOne 2 none :: zx_T) rm_WH_addOne (va_Pc [.ref a1] (ah_B G h0)) (va_Qv (fun h9 => K h9 ∧ ah_m h0 h9) (ah_B G) (fun q => G.2.2 ≤ q)) 0 0 (fun q => G.2.2 ≤ q) := by
  refine Met.ofW (cc := b_WH_addOne) (maxL := 2) (ret := none) (by decide) rfl ?_
  intro p e s m args below meth c s₁ B hml hv
  have hout : ∀ x ∈ c.exceptionTable.toList, False := cx_out B (atoms_spec B.pre _ List.mem_cons_self)
  obtain ⟨rfl, hB⟩ := hv
  have C : cx_C p l s m _ meth c G y_WH_addOne b_WH_addOne 2 none "BigDesk$Whole" := ⟨B.exec, B.bytes, B.returns, hml, findClass_of_methodNamed B.named, atoms_spec B.pre, B.notSynchronized, hB.2.2.1, hB.2.2.2, hout, fun z9 => (name_of_methodNamed B.named B.method).1.trans z9, hst⟩
  obtain ⟨hx, hb, hr, hml, hown, hts, hlk, hK, hX, hout, hin, hst⟩ := id C
  have hw : ∀ {w9 : Cond}, w9 ∈ zx_T → w9.before _ s = true := fun h9 => hts _ (List.mem_cons_of_mem _ h9)
  have hW : ah_W G s.heap h0 s.heap [] := ⟨hB.1, hB.2.1, va_S.rf⟩
  have hm : ah_m h0 h0 := ah_m.rf
  have hcl : 0 + 0 ≤ 0 := by decide
  have hsl : 0 + 0 ≤ 0 := by decide
  have hl := lv_entry ([.ref a1]) (n := 2) (Nat.le_of_ble_eq_true rfl)
  rw [lg_entry_eq]
  generalize (lg_sl ([.ref a1]) ++ List.replicate (2 - (lg_sl ([.ref a1])).length) Slot.unset).toArray = ls at hl ⊢
  have hl : lv_has ls 2 [(0, .ref a1)] := hl
  unfold w_WH_addOne at w
  refine lv_iconst (v := 0) hx hb d_WH_addOne_0 (by decide) ?_
  refine lv_istore_n (lv' := [(1, .int (0 : Int32)), (0, .ref a1)]) hx hb d_WH_addOne_1 rfl hl (by decide) rfl (fun ls hl => ?_)
  obtain ⟨k46, w⟩ := w
  refine tl_WH_addOne_2 C hcl hsl (fun x22 x23 h24 H locs ls w hm hW hl => ?_) k46 a1 (0 : Int32) h0 _ _ _ w hm hW (lv_sub hl [1, 0] rfl)
  · exact tb_WH_addOne_36 C (by omega) (by omega)  x22 x23 h24 _ _ _ w hm hW (lv_sub hl [0, 1] rfl)
set_option maxHeartbeats 4000000 in
set_option maxRecDepth 100000 in
theorem m_WH_clear {l : Launch} (G : zG) (a1 : Nat) (h0 : ah_H) {K : ah_H → Prop} (hst : l.stackTraces = false) (w : w_WH_clear a1 h0 K) : Met l y_WH_clear (Cond.code y_WH_clear b_WH_clear 1 none :: zx_T) rm_WH_clear (va_Pc [.ref a1] (ah_B G h0)) (va_Qv (fun h9 => K h9 ∧ ah_m h0 h9) (ah_B G) (fun q => G.2.2 ≤ q)) 0 0 (fun q => G.2.2 ≤ q) := by
  refine Met.ofW (cc := b_WH_clear) (maxL := 1) (ret := none) (by decide) rfl ?_
  intro p e s m args below meth c s₁ B hml hv
  have hout : ∀ x ∈ c.exceptionTable.toList, False := cx_out B (atoms_spec B.pre _ List.mem_cons_self)
  obtain ⟨rfl, hB⟩ := hv
  have C : cx_C p l s m _ meth c G y_WH_clear b_WH_clear 1 none "BigDesk$Whole" := ⟨B.exec, B.bytes, B.returns, hml, findClass_of_methodNamed B.named, atoms_spec B.pre, B.notSynchronized, hB.2.2.1, hB.2.2.2, hout, fun z9 => (name_of_methodNamed B.named B.method).1.trans z9, hst⟩
  obtain ⟨hx, hb, hr, hml, hown, hts, hlk, hK, hX, hout, hin, hst⟩ := id C
  have hw : ∀ {w9 : Cond}, w9 ∈ zx_T → w9.before _ s = true := fun h9 => hts _ (List.mem_cons_of_mem _ h9)
  have hW : ah_W G s.heap h0 s.heap [] := ⟨hB.1, hB.2.1, va_S.rf⟩
  have hm : ah_m h0 h0 := ah_m.rf
  have hcl : 0 + 0 ≤ 0 := by decide
  have hsl : 0 + 0 ≤ 0 := by decide
  have hl := lv_entry ([.ref a1]) (n := 1) (Nat.le_of_ble_eq_true rfl)
  rw [lg_entry_eq]
  generalize (lg_sl ([.ref a1]) ++ List.replicate (1 - (lg_sl ([.ref a1])).length) Slot.unset).toArray = ls at hl ⊢
  have hl : lv_has ls 1 [(0, .ref a1)] := hl
  unfold w_WH_clear at w
  refine lv_aload_n hx hb d_WH_clear_0 rfl (lv_at hl 0 rfl) ?_
  refine lv_iconst (v := 0) hx hb d_WH_clear_1 (by decide) ?_
  obtain ⟨t2, w⟩ := w
  refine hb_callv (va_runV (As := [.int (0 : Int32)]) (rest := []) ⟨hx, hb, hml, hown, hts⟩ (m_WH_settle G a1 (0 : Int32) h0 hst w) (cwV 1 hts (zx_gV wd_218 wd_219 wd_220 wd_2 wd_221) rfl rfl rfl (by decide +kernel) ⟨Nat.le_of_ble_eq_true rfl, Nat.le_of_ble_eq_true rfl⟩) (hb_preV hK hX hW t2 (by decide) rfl) rfl rfl hl.1 rfl (lv_room (Nat.le_of_ble_eq_true rfl)) d_WH_clear_2 ⟨(by show _ ≤ 0; omega), (by show _ ≤ 0; omega)⟩) hW (fun h3 H locs hk hW => ?_)
  obtain ⟨w, mm4⟩ := hk
  have w := w mm4
  have hm := hm.tr mm4
  have t5 := mm4.tg t2 (by decide)
  refine lv_aload_n hx hb d_WH_clear_5 rfl (lv_at hl 0 rfl) ?_
  refine lv_iconst (v := 0) hx hb d_WH_clear_6 (by decide) ?_
  refine hb_put (ci := 2) (C := "BigDesk$Whole") (T := T_WH) (N := 3) hx hb hts (fun w9 h9 => List.mem_cons_of_mem _ (u_WH w9 h9)) t_WH o_WH n_WH hown hK hW t5 rfl (by decide) 2 (by decide) (hw wd_43) (fun _ h9 => h9) rfl (ty := t_WH 2) (by decide +kernel) (q := (0, 1)) rfl (by decide) (v := .int (0 : Int32)) rfl rfl (ah_one_I h3 1 a1 (0 : Int32)) d_WH_clear_7 (fun H locs h6 eh6 hW => ?_)
  have w := w h6 eh6
  have mm7 : ah_m h3 h6 := ah_m.rf.st (by rw [eh6]; rfl) (by rw [eh6]; rfl)
  have hm := hm.tr mm7
  have t8 := mm7.tg t5 (by decide)
  exact hb_vret (K := fun h9 => K h9 ∧ ah_m h0 h9) hx hb hr hlk hK hX hW ⟨w, hm⟩ (by omega) (by omega) d_WH_clear_10
set_option maxHeartbeats 4000000 in
set_option maxRecDepth 100000 in
theorem tb_WH_longFrom_54 {p : Program} {l : Launch} {e : Env} {s : State} {m : MethodId} {args : Array Value} {below : List Frame} {meth : Method} {c : Code} {G : zG} (C : cx_C p l s m args meth c G y_WH_longFrom b_WH_longFrom 6 (some .long) "BigDesk$Whole") {K : Int64 → ah_H → Prop} {h0 : ah_H} {cells slots : Nat} (hcl : cells + 0 ≤ 0) (hsl : slots + 0 ≤ 0)  (s20 : Int64) (h21 : ah_H) (H : Heap) (locs : List Loc) (ls : Array Slot) (w : bk_WH_longFrom_54 K s20 h21) (hm : ah_m h0 h21) (hW : ah_W G s.heap h21 H locs) (hl : lv_has ls 6 []) : W p l e rm_WH_longFrom s m args below meth c H locs cells slots (MQ below (va_Ql (fun r9 h9 => K r9 h9 ∧ ah_m h0 h9) (ah_B G) (fun q => G.2.2 ≤ q)) args s 0 0 (fun q => G.2.2 ≤ q)) (F0 m 54 ls [.long s20]) := by
  unfold bk_WH_longFrom_54 at w
  obtain ⟨hx, hb, hr, hml, hown, hts, hlk, hK, hX, hout, hin, hst⟩ := id C
  have hw : ∀ {w9 : Cond}, w9 ∈ zx_T → w9.before args s = true := fun h9 => hts _ (List.mem_cons_of_mem _ h9)
  exact hb_lret (K := fun r9 h9 => K r9 h9 ∧ ah_m h0 h9) hx hb hr hlk hK hX hW ⟨w, hm⟩ (by omega) (by omega) d_WH_longFrom_54
set_option maxHeartbeats 4000000 in
set_option maxRecDepth 100000 in
theorem m_WH_longFrom {l : Launch} (G : zG) (a1 : Nat) (a2 : Int32) (h0 : ah_H) {K : Int64 → ah_H → Prop} (hst : l.stackTraces = false) (w : w_WH_longFrom a1 a2 h0 K) : Met l y_WH_longFrom (Cond.code y_WH_longFrom b_WH_longFrom 6 (some .long) :: zx_T) rm_WH_longFrom (va_Pc [.ref a1, .int a2] (ah_B G h0)) (va_Ql (fun r9 h9 => K r9 h9 ∧ ah_m h0 h9) (ah_B G) (fun q => G.2.2 ≤ q)) 0 0 (fun q => G.2.2 ≤ q) := by
  refine Met.ofW (cc := b_WH_longFrom) (maxL := 6) (ret := (some .long)) (by decide) rfl ?_
  intro p e s m args below meth c s₁ B hml hv
  have hout : ∀ x ∈ c.exceptionTable.toList, False := cx_out B (atoms_spec B.pre _ List.mem_cons_self)
  obtain ⟨rfl, hB⟩ := hv
  have C : cx_C p l s m _ meth c G y_WH_longFrom b_WH_longFrom 6 (some .long) "BigDesk$Whole" := ⟨B.exec, B.bytes, B.returns, hml, findClass_of_methodNamed B.named, atoms_spec B.pre, B.notSynchronized, hB.2.2.1, hB.2.2.2, hout, fun z9 => (name_of_methodNamed B.named B.method).1.trans z9, hst⟩
  obtain ⟨hx, hb, hr, hml, hown, hts, hlk, hK, hX, hout, hin, hst⟩ := id C
  have hw : ∀ {w9 : Cond}, w9 ∈ zx_T → w9.before _ s = true := fun h9 => hts _ (List.mem_cons_of_mem _ h9)
  have hW : ah_W G s.heap h0 s.heap [] := ⟨hB.1, hB.2.1, va_S.rf⟩
  have hm : ah_m h0 h0 := ah_m.rf
  have hcl : 0 + 0 ≤ 0 := by decide
  have hsl : 0 + 0 ≤ 0 := by decide
  have hl := lv_entry ([.ref a1, .int a2]) (n := 6) (Nat.le_of_ble_eq_true rfl)
  rw [lg_entry_eq]
  generalize (lg_sl ([.ref a1, .int a2]) ++ List.replicate (6 - (lg_sl ([.ref a1, .int a2])).length) Slot.unset).toArray = ls at hl ⊢
  have hl : lv_has ls 6 [(0, .ref a1), (1, .int a2)] := hl
  unfold w_WH_longFrom at w
  refine lv_iload_n hx hb d_WH_longFrom_0 rfl (lv_at hl 1 rfl) ?_
  refine lv_bipush (v := 32) hx hb d_WH_longFrom_1 (by decide) ?_
  refine lv_idiv hx hb d_WH_longFrom_3 (by decide) ?_
  refine lv_topi (fun v3 ev3 => ?_)
  have w := w v3 ev3
  refine lv_istore_n (lv' := [(2, .int v3), (0, .ref a1), (1, .int a2)]) hx hb d_WH_longFrom_4 rfl hl (by decide) rfl (fun ls hl => ?_)
  refine lv_iload_n hx hb d_WH_longFrom_5 rfl (lv_at hl 2 rfl) ?_
  refine lv_bipush (v := 32) hx hb d_WH_longFrom_6 (by decide) ?_
  refine lv_irem hx hb d_WH_longFrom_8 (by decide) ?_
  refine lv_topi (fun v4 ev4 => ?_)
  have w := w v4 ev4
  refine lv_istore_n (lv' := [(3, .int v4), (2, .int v3), (0, .ref a1), (1, .int a2)]) hx hb d_WH_longFrom_9 rfl hl (by decide) rfl (fun ls hl => ?_)
  refine lv_aload_n hx hb d_WH_longFrom_10 rfl (lv_at hl 2 rfl) ?_
  refine lv_iload_n hx hb d_WH_longFrom_11 rfl (lv_at hl 1 rfl) ?_
  refine lv_iconst (v := 1) hx hb d_WH_longFrom_12 (by decide) ?_
  refine lv_iadd hx hb d_WH_longFrom_13 ?_
  obtain ⟨t5, w⟩ := w
  refine hb_calll (va_runV (As := [.int (v3 + (1 : Int32))]) (rest := []) ⟨hx, hb, hml, hown, hts⟩ (m_WH_at G a1 (v3 + (1 : Int32)) h0 hst w) (cwV 1 hts (zx_gV wd_343 wd_344 wd_345 wd_2 wd_346) rfl rfl rfl (by decide +kernel) ⟨Nat.le_of_ble_eq_true rfl, Nat.le_of_ble_eq_true rfl⟩) (hb_preV hK hX hW t5 (by decide) rfl) rfl rfl hl.1 rfl (lv_room (Nat.le_of_ble_eq_true rfl)) d_WH_longFrom_14 ⟨(by show _ ≤ 0; omega), (by show _ ≤ 0; omega)⟩) hW (fun r7 h6 H locs hk hW => ?_)
  obtain ⟨w, mm8⟩ := hk
  have w := w mm8
  have hm := hm.tr mm8
  have t9 := mm8.tg t5 (by decide)
  refine lv_bipush (v := 32) hx hb d_WH_longFrom_17 (by decide) ?_
  refine lv_lshl hx hb d_WH_longFrom_19 rfl ?_
  refine lv_aload_n hx hb d_WH_longFrom_20 rfl (lv_at hl 2 rfl) ?_
  refine lv_iload_n hx hb d_WH_longFrom_21 rfl (lv_at hl 1 rfl) ?_
  refine hb_calll (va_runV (As := [.int v3]) (rest := [.long (r7 <<< ((32 : Int32).toInt64 &&& 63))]) ⟨hx, hb, hml, hown, hts⟩ (m_WH_at G a1 v3 h6 hst w) (cwV 1 hts (zx_gV wd_343 wd_344 wd_345 wd_2 wd_346) rfl rfl rfl (by decide +kernel) ⟨Nat.le_of_ble_eq_true rfl, Nat.le_of_ble_eq_true rfl⟩) (hb_preV hK hX hW t9 (by decide) rfl) rfl rfl hl.1 rfl (lv_room (Nat.le_of_ble_eq_true rfl)) d_WH_longFrom_22 ⟨(by show _ ≤ 0; omega), (by show _ ≤ 0; omega)⟩) hW (fun r11 h10 H locs hk hW => ?_)
  obtain ⟨w, mm12⟩ := hk
  have w := w mm12
  have hm := hm.tr mm12
  have t13 := mm12.tg t9 (by decide)
  refine lv_lor hx hb d_WH_longFrom_25 ?_
  refine lv_topl (fun v14 ev14 => ?_)
  have w := w v14 ev14
  refine lv_lstore (lv' := [(4, .long v14), (3, .int v4), (2, .int v3), (0, .ref a1), (1, .int a2)]) hx hb d_WH_longFrom_26 hl (by decide) rfl (fun ls hl => ?_)
  refine lv_iload_n hx hb d_WH_longFrom_28 rfl (lv_at hl 1 rfl) ?_
  refine lv_if_ne (tgt := 37) hx hb d_WH_longFrom_29 (by decide) (fun c15 => ?_) (fun c15 => ?_)
  · have w := w.1 c15
    refine lv_lload hx hb d_WH_longFrom_37 (lv_at hl 0 rfl) ?_
    refine lv_iload_n hx hb d_WH_longFrom_39 rfl (lv_at hl 1 rfl) ?_
    refine lv_lushr hx hb d_WH_longFrom_40 rfl ?_
    refine lv_aload_n hx hb d_WH_longFrom_41 rfl (lv_at hl 3 rfl) ?_
    refine lv_iload_n hx hb d_WH_longFrom_42 rfl (lv_at hl 2 rfl) ?_
    refine lv_iconst (v := 2) hx hb d_WH_longFrom_43 (by decide) ?_
    refine lv_iadd hx hb d_WH_longFrom_44 ?_
    refine hb_calll (va_runV (As := [.int (v3 + (2 : Int32))]) (rest := [.long ((v14.toUInt64 >>> (v4.toInt64.toUInt64 &&& Int64.toUInt64 63)).toInt64)]) ⟨hx, hb, hml, hown, hts⟩ (m_WH_at G a1 (v3 + (2 : Int32)) h10 hst w) (cwV 1 hts (zx_gV wd_343 wd_344 wd_345 wd_2 wd_346) rfl rfl rfl (by decide +kernel) ⟨Nat.le_of_ble_eq_true rfl, Nat.le_of_ble_eq_true rfl⟩) (hb_preV hK hX hW t13 (by decide) rfl) rfl rfl hl.1 rfl (lv_room (Nat.le_of_ble_eq_true rfl)) d_WH_longFrom_45 ⟨(by show _ ≤ 0; omega), (by show _ ≤ 0; omega)⟩) hW (fun r17 h16 H locs hk hW => ?_)
    obtain ⟨w, mm18⟩ := hk
    have w := w mm18
    have hm := hm.tr mm18
    have t19 := mm18.tg t13 (by decide)
    refine lv_bipush (v := 64) hx hb d_WH_longFrom_48 (by decide) ?_
    refine lv_iload_n hx hb d_WH_longFrom_50 rfl (lv_at hl 1 rfl) ?_
    refine lv_isub hx hb d_WH_longFrom_51 ?_
    refine lv_lshl hx hb d_WH_longFrom_52 rfl ?_
    refine lv_lor hx hb d_WH_longFrom_53 ?_
    exact tb_WH_longFrom_54 C (by omega) (by omega)  (((v14.toUInt64 >>> (v4.toInt64.toUInt64 &&& Int64.toUInt64 63)).toInt64) ||| (r17 <<< (((64 : Int32) - v4).toInt64 &&& 63))) h16 _ _ _ w hm hW (lv_sub hl [] rfl)
  · have w := w.2 c15
    refine lv_lload hx hb d_WH_longFrom_32 (lv_at hl 0 rfl) ?_
    refine lv_goto (tgt := 54) hx hb d_WH_longFrom_34 (by decide) ?_
    exact tb_WH_longFrom_54 C (by omega) (by omega)  v14 h10 _ _ _ w hm hW (lv_sub hl [] rfl)
set_option maxHeartbeats 4000000 in
set_option maxRecDepth 100000 in
theorem m_WH_lowestLong {l : Launch} (G : zG) (a1 : Nat) (h0 : ah_H) {K : Int64 → ah_H → Prop} (hst : l.stackTraces = false) (w : w_WH_lowestLong a1 h0 K) : Met l y_WH_lowestLong (Cond.code y_WH_lowestLong b_WH_lowestLong 1 (some .long) :: zx_T) rm_WH_lowestLong (va_Pc [.ref a1] (ah_B G h0)) (va_Ql (fun r9 h9 => K r9 h9 ∧ ah_m h0 h9) (ah_B G) (fun q => G.2.2 ≤ q)) 0 0 (fun q => G.2.2 ≤ q) := by
  refine Met.ofW (cc := b_WH_lowestLong) (maxL := 1) (ret := (some .long)) (by decide) rfl ?_
  intro p e s m args below meth c s₁ B hml hv
  have hout : ∀ x ∈ c.exceptionTable.toList, False := cx_out B (atoms_spec B.pre _ List.mem_cons_self)
  obtain ⟨rfl, hB⟩ := hv
  have C : cx_C p l s m _ meth c G y_WH_lowestLong b_WH_lowestLong 1 (some .long) "BigDesk$Whole" := ⟨B.exec, B.bytes, B.returns, hml, findClass_of_methodNamed B.named, atoms_spec B.pre, B.notSynchronized, hB.2.2.1, hB.2.2.2, hout, fun z9 => (name_of_methodNamed B.named B.method).1.trans z9, hst⟩
  obtain ⟨hx, hb, hr, hml, hown, hts, hlk, hK, hX, hout, hin, hst⟩ := id C
  have hw : ∀ {w9 : Cond}, w9 ∈ zx_T → w9.before _ s = true := fun h9 => hts _ (List.mem_cons_of_mem _ h9)
  have hW : ah_W G s.heap h0 s.heap [] := ⟨hB.1, hB.2.1, va_S.rf⟩
  have hm : ah_m h0 h0 := ah_m.rf
  have hcl : 0 + 0 ≤ 0 := by decide
  have hsl : 0 + 0 ≤ 0 := by decide
  have hl := lv_entry ([.ref a1]) (n := 1) (Nat.le_of_ble_eq_true rfl)
  rw [lg_entry_eq]
  generalize (lg_sl ([.ref a1]) ++ List.replicate (1 - (lg_sl ([.ref a1])).length) Slot.unset).toArray = ls at hl ⊢
  have hl : lv_has ls 1 [(0, .ref a1)] := hl
  unfold w_WH_lowestLong at w
  refine lv_aload_n hx hb d_WH_lowestLong_0 rfl (lv_at hl 0 rfl) ?_
  obtain ⟨t2, w⟩ := w
  obtain ⟨q3, e4, w⟩ := w
  refine hb_get (ci := 2) (C := "BigDesk$Whole") (T := T_WH) (N := 3) hx hb hts (fun w9 h9 => List.mem_cons_of_mem _ (u_WH w9 h9)) hown hK hW t2 rfl (by decide) 0 (by decide) (hw wd_33) (fun _ h9 => h9) (q := (2, 5)) rfl (v := .ref q3) (ah_f_R e4) d_WH_lowestLong_1 ?_
  refine lv_iconst (v := 1) hx hb d_WH_lowestLong_4 (by decide) ?_
  obtain ⟨t5, w⟩ := w
  obtain ⟨i6, w⟩ := w
  refine hb_lald hx hb hK hW t5 (by decide) (by decide) 2 rfl i6 d_WH_lowestLong_5 ?_
  refine lv_bipush (v := 32) hx hb d_WH_lowestLong_6 (by decide) ?_
  refine lv_lshl hx hb d_WH_lowestLong_8 rfl ?_
  refine lv_aload_n hx hb d_WH_lowestLong_9 rfl (lv_at hl 0 rfl) ?_
  obtain ⟨q7, e8, w⟩ := w
  refine hb_get (ci := 2) (C := "BigDesk$Whole") (T := T_WH) (N := 3) hx hb hts (fun w9 h9 => List.mem_cons_of_mem _ (u_WH w9 h9)) hown hK hW t2 rfl (by decide) 0 (by decide) (hw wd_33) (fun _ h9 => h9) (q := (2, 5)) rfl (v := .ref q7) (ah_f_R e8) d_WH_lowestLong_10 ?_
  refine lv_iconst (v := 0) hx hb d_WH_lowestLong_13 (by decide) ?_
  obtain ⟨t9, w⟩ := w
  obtain ⟨i10, w⟩ := w
  refine hb_lald hx hb hK hW t9 (by decide) (by decide) 2 rfl i10 d_WH_lowestLong_14 ?_
  refine lv_lor hx hb d_WH_lowestLong_15 ?_
  exact hb_lret (K := fun r9 h9 => K r9 h9 ∧ ah_m h0 h9) hx hb hr hlk hK hX hW ⟨w, hm⟩ (by omega) (by omega) d_WH_lowestLong_16
set_option maxHeartbeats 4000000 in
set_option maxRecDepth 100000 in
theorem tb_WH_asLong_19 {p : Program} {l : Launch} {e : Env} {s : State} {m : MethodId} {args : Array Value} {below : List Frame} {meth : Method} {c : Code} {G : zG} (C : cx_C p l s m args meth c G y_WH_asLong b_WH_asLong 1 (some .long) "BigDesk$Whole") {K : Int64 → ah_H → Prop} {h0 : ah_H} {cells slots : Nat} (hcl : cells + 0 ≤ 0) (hsl : slots + 0 ≤ 0)  (s8 : Int64) (h9 : ah_H) (H : Heap) (locs : List Loc) (ls : Array Slot) (w : bk_WH_asLong_19 K s8 h9) (hm : ah_m h0 h9) (hW : ah_W G s.heap h9 H locs) (hl : lv_has ls 1 []) : W p l e rm_WH_asLong s m args below meth c H locs cells slots (MQ below (va_Ql (fun r9 h9 => K r9 h9 ∧ ah_m h0 h9) (ah_B G) (fun q => G.2.2 ≤ q)) args s 0 0 (fun q => G.2.2 ≤ q)) (F0 m 19 ls [.long s8]) := by
  unfold bk_WH_asLong_19 at w
  obtain ⟨hx, hb, hr, hml, hown, hts, hlk, hK, hX, hout, hin, hst⟩ := id C
  have hw : ∀ {w9 : Cond}, w9 ∈ zx_T → w9.before args s = true := fun h9 => hts _ (List.mem_cons_of_mem _ h9)
  exact hb_lret (K := fun r9 h9 => K r9 h9 ∧ ah_m h0 h9) hx hb hr hlk hK hX hW ⟨w, hm⟩ (by omega) (by omega) d_WH_asLong_19
set_option maxHeartbeats 4000000 in
set_option maxRecDepth 100000 in
theorem m_WH_asLong {l : Launch} (G : zG) (a1 : Nat) (h0 : ah_H) {K : Int64 → ah_H → Prop} (hst : l.stackTraces = false) (w : w_WH_asLong a1 h0 K) : Met l y_WH_asLong (Cond.code y_WH_asLong b_WH_asLong 1 (some .long) :: zx_T) rm_WH_asLong (va_Pc [.ref a1] (ah_B G h0)) (va_Ql (fun r9 h9 => K r9 h9 ∧ ah_m h0 h9) (ah_B G) (fun q => G.2.2 ≤ q)) 0 0 (fun q => G.2.2 ≤ q) := by
  refine Met.ofW (cc := b_WH_asLong) (maxL := 1) (ret := (some .long)) (by decide) rfl ?_
  intro p e s m args below meth c s₁ B hml hv
  have hout : ∀ x ∈ c.exceptionTable.toList, False := cx_out B (atoms_spec B.pre _ List.mem_cons_self)
  obtain ⟨rfl, hB⟩ := hv
  have C : cx_C p l s m _ meth c G y_WH_asLong b_WH_asLong 1 (some .long) "BigDesk$Whole" := ⟨B.exec, B.bytes, B.returns, hml, findClass_of_methodNamed B.named, atoms_spec B.pre, B.notSynchronized, hB.2.2.1, hB.2.2.2, hout, fun z9 => (name_of_methodNamed B.named B.method).1.trans z9, hst⟩
  obtain ⟨hx, hb, hr, hml, hown, hts, hlk, hK, hX, hout, hin, hst⟩ := id C
  have hw : ∀ {w9 : Cond}, w9 ∈ zx_T → w9.before _ s = true := fun h9 => hts _ (List.mem_cons_of_mem _ h9)
  have hW : ah_W G s.heap h0 s.heap [] := ⟨hB.1, hB.2.1, va_S.rf⟩
  have hm : ah_m h0 h0 := ah_m.rf
  have hcl : 0 + 0 ≤ 0 := by decide
  have hsl : 0 + 0 ≤ 0 := by decide
  have hl := lv_entry ([.ref a1]) (n := 1) (Nat.le_of_ble_eq_true rfl)
  rw [lg_entry_eq]
  generalize (lg_sl ([.ref a1]) ++ List.replicate (1 - (lg_sl ([.ref a1])).length) Slot.unset).toArray = ls at hl ⊢
  have hl : lv_has ls 1 [(0, .ref a1)] := hl
  unfold w_WH_asLong at w
  refine lv_aload_n hx hb d_WH_asLong_0 rfl (lv_at hl 0 rfl) ?_
  obtain ⟨t2, w⟩ := w
  refine hb_get (ci := 2) (C := "BigDesk$Whole") (T := T_WH) (N := 3) hx hb hts (fun w9 h9 => List.mem_cons_of_mem _ (u_WH w9 h9)) hown hK hW t2 rfl (by decide) 2 (by decide) (hw wd_43) (fun _ h9 => h9) (q := (0, 1)) rfl (v := .int (ah_I h0 1 a1)) rfl d_WH_asLong_1 ?_
  refine lv_if_eq (tgt := 15) hx hb d_WH_asLong_4 (by decide) (fun c3 => ?_) (fun c3 => ?_)
  · have w := w.1 c3
    refine lv_aload_n hx hb d_WH_asLong_15 rfl (lv_at hl 0 rfl) ?_
    refine hb_calll (va_runV (As := []) (rest := []) ⟨hx, hb, hml, hown, hts⟩ (m_WH_lowestLong G a1 h0 hst w) (cwV 0 hts (zx_gV wd_508 wd_510 wd_s11 wd_2 wd_511) rfl rfl rfl (by decide +kernel) ⟨Nat.le_of_ble_eq_true rfl, Nat.le_of_ble_eq_true rfl⟩) (hb_preV hK hX hW t2 (by decide) rfl) rfl rfl hl.1 rfl (lv_room (Nat.le_of_ble_eq_true rfl)) d_WH_asLong_16 ⟨(by show _ ≤ 0; omega), (by show _ ≤ 0; omega)⟩) hW (fun r5 h4 H locs hk hW => ?_)
    obtain ⟨w, mm6⟩ := hk
    have w := w mm6
    have hm := hm.tr mm6
    have t7 := mm6.tg t2 (by decide)
    exact tb_WH_asLong_19 C (by omega) (by omega)  r5 h4 _ _ _ w hm hW (lv_sub hl [] rfl)
  · have w := w.2 c3
    refine lv_aload_n hx hb d_WH_asLong_7 rfl (lv_at hl 0 rfl) ?_
    refine hb_calll (va_runV (As := []) (rest := []) ⟨hx, hb, hml, hown, hts⟩ (m_WH_lowestLong G a1 h0 hst w) (cwV 0 hts (zx_gV wd_508 wd_510 wd_s11 wd_2 wd_511) rfl rfl rfl (by decide +kernel) ⟨Nat.le_of_ble_eq_true rfl, Nat.le_of_ble_eq_true rfl⟩) (hb_preV hK hX hW t2 (by decide) rfl) rfl rfl hl.1 rfl (lv_room (Nat.le_of_ble_eq_true rfl)) d_WH_asLong_8 ⟨(by show _ ≤ 0; omega), (by show _ ≤ 0; omega)⟩) hW (fun r11 h10 H locs hk hW => ?_)
    obtain ⟨w, mm12⟩ := hk
    have w := w mm12
    have hm := hm.tr mm12
    have t13 := mm12.tg t2 (by decide)
    refine lv_lneg hx hb d_WH_asLong_11 ?_
    refine lv_goto (tgt := 19) hx hb d_WH_asLong_12 (by decide) ?_
    exact tb_WH_asLong_19 C (by omega) (by omega)  (-r11) h10 _ _ _ w hm hW (lv_sub hl [] rfl)
set_option maxHeartbeats 4000000 in
set_option maxRecDepth 100000 in
theorem tb_WH_isLong_39 {p : Program} {l : Launch} {e : Env} {s : State} {m : MethodId} {args : Array Value} {below : List Frame} {meth : Method} {c : Code} {G : zG} (C : cx_C p l s m args meth c G y_WH_isLong b_WH_isLong 3 (some .boolean) "BigDesk$Whole") {K : Int32 → ah_H → Prop} {h0 : ah_H} {cells slots : Nat} (hcl : cells + 0 ≤ 0) (hsl : slots + 0 ≤ 0)  (s9 : Int32) (h10 : ah_H) (H : Heap) (locs : List Loc) (ls : Array Slot) (w : bk_WH_isLong_39 K s9 h10) (hm : ah_m h0 h10) (hW : ah_W G s.heap h10 H locs) (hl : lv_has ls 3 []) : W p l e rm_WH_isLong s m args below meth c H locs cells slots (MQ below (va_Qi (fun r9 h9 => K r9 h9 ∧ ah_m h0 h9) (ah_B G) (fun q => G.2.2 ≤ q)) args s 0 0 (fun q => G.2.2 ≤ q)) (F0 m 39 ls [.int s9]) := by
  unfold bk_WH_isLong_39 at w
  obtain ⟨hx, hb, hr, hml, hown, hts, hlk, hK, hX, hout, hin, hst⟩ := id C
  have hw : ∀ {w9 : Cond}, w9 ∈ zx_T → w9.before args s = true := fun h9 => hts _ (List.mem_cons_of_mem _ h9)
  obtain ⟨z11, w⟩ := w
  exact hb_zret (K := fun r9 h9 => K r9 h9 ∧ ah_m h0 h9) hx hb hr hlk z11 hK hX hW ⟨w, hm⟩ (by omega) (by omega) d_WH_isLong_39
set_option maxHeartbeats 4000000 in
set_option maxRecDepth 100000 in
theorem tb_WH_isLong_38 {p : Program} {l : Launch} {e : Env} {s : State} {m : MethodId} {args : Array Value} {below : List Frame} {meth : Method} {c : Code} {G : zG} (C : cx_C p l s m args meth c G y_WH_isLong b_WH_isLong 3 (some .boolean) "BigDesk$Whole") {K : Int32 → ah_H → Prop} {h0 : ah_H} {cells slots : Nat} (hcl : cells + 0 ≤ 0) (hsl : slots + 0 ≤ 0)   (h8 : ah_H) (H : Heap) (locs : List Loc) (ls : Array Slot) (w : bk_WH_isLong_38 K h8) (hm : ah_m h0 h8) (hW : ah_W G s.heap h8 H locs) (hl : lv_has ls 3 []) : W p l e rm_WH_isLong s m args below meth c H locs cells slots (MQ below (va_Qi (fun r9 h9 => K r9 h9 ∧ ah_m h0 h9) (ah_B G) (fun q => G.2.2 ≤ q)) args s 0 0 (fun q => G.2.2 ≤ q)) (F0 m 38 ls []) := by
  unfold bk_WH_isLong_38 at w
  obtain ⟨hx, hb, hr, hml, hown, hts, hlk, hK, hX, hout, hin, hst⟩ := id C
  have hw : ∀ {w9 : Cond}, w9 ∈ zx_T → w9.before args s = true := fun h9 => hts _ (List.mem_cons_of_mem _ h9)
  refine lv_iconst (v := 0) hx hb d_WH_isLong_38 (by decide) ?_
  exact tb_WH_isLong_39 C (by omega) (by omega)  (0 : Int32) h8 _ _ _ w hm hW (lv_sub hl [] rfl)
set_option maxHeartbeats 4000000 in
set_option maxRecDepth 100000 in
theorem tb_WH_isLong_34 {p : Program} {l : Launch} {e : Env} {s : State} {m : MethodId} {args : Array Value} {below : List Frame} {meth : Method} {c : Code} {G : zG} (C : cx_C p l s m args meth c G y_WH_isLong b_WH_isLong 3 (some .boolean) "BigDesk$Whole") {K : Int32 → ah_H → Prop} {h0 : ah_H} {cells slots : Nat} (hcl : cells + 0 ≤ 0) (hsl : slots + 0 ≤ 0)   (h13 : ah_H) (H : Heap) (locs : List Loc) (ls : Array Slot) (w : bk_WH_isLong_34 K h13) (hm : ah_m h0 h13) (hW : ah_W G s.heap h13 H locs) (hl : lv_has ls 3 []) : W p l e rm_WH_isLong s m args below meth c H locs cells slots (MQ below (va_Qi (fun r9 h9 => K r9 h9 ∧ ah_m h0 h9) (ah_B G) (fun q => G.2.2 ≤ q)) args s 0 0 (fun q => G.2.2 ≤ q)) (F0 m 34 ls []) := by
  unfold bk_WH_isLong_34 at w
  obtain ⟨hx, hb, hr, hml, hown, hts, hlk, hK, hX, hout, hin, hst⟩ := id C
  have hw : ∀ {w9 : Cond}, w9 ∈ zx_T → w9.before args s = true := fun h9 => hts _ (List.mem_cons_of_mem _ h9)
  refine lv_iconst (v := 1) hx hb d_WH_isLong_34 (by decide) ?_
  refine lv_goto (tgt := 39) hx hb d_WH_isLong_35 (by decide) ?_
  exact tb_WH_isLong_39 C (by omega) (by omega)  (1 : Int32) h13 _ _ _ w hm hW (lv_sub hl [] rfl)
set_option maxHeartbeats 4000000 in
set_option maxRecDepth 100000 in
theorem m_WH_isLong {l : Launch} (G : zG) (a1 : Nat) (h0 : ah_H) {K : Int32 → ah_H → Prop} (hst : l.stackTraces = false) (w : w_WH_isLong a1 h0 K) : Met l y_WH_isLong (Cond.code y_WH_isLong b_WH_isLong 3 (some .boolean) :: zx_T) rm_WH_isLong (va_Pc [.ref a1] (ah_B G h0)) (va_Qi (fun r9 h9 => K r9 h9 ∧ ah_m h0 h9) (ah_B G) (fun q => G.2.2 ≤ q)) 0 0 (fun q => G.2.2 ≤ q) := by
  refine Met.ofW (cc := b_WH_isLong) (maxL := 3) (ret := (some .boolean)) (by decide) rfl ?_
  intro p e s m args below meth c s₁ B hml hv
  have hout : ∀ x ∈ c.exceptionTable.toList, False := cx_out B (atoms_spec B.pre _ List.mem_cons_self)
  obtain ⟨rfl, hB⟩ := hv
  have C : cx_C p l s m _ meth c G y_WH_isLong b_WH_isLong 3 (some .boolean) "BigDesk$Whole" := ⟨B.exec, B.bytes, B.returns, hml, findClass_of_methodNamed B.named, atoms_spec B.pre, B.notSynchronized, hB.2.2.1, hB.2.2.2, hout, fun z9 => (name_of_methodNamed B.named B.method).1.trans z9, hst⟩
  obtain ⟨hx, hb, hr, hml, hown, hts, hlk, hK, hX, hout, hin, hst⟩ := id C
  have hw : ∀ {w9 : Cond}, w9 ∈ zx_T → w9.before _ s = true := fun h9 => hts _ (List.mem_cons_of_mem _ h9)
  have hW : ah_W G s.heap h0 s.heap [] := ⟨hB.1, hB.2.1, va_S.rf⟩
  have hm : ah_m h0 h0 := ah_m.rf
  have hcl : 0 + 0 ≤ 0 := by decide
  have hsl : 0 + 0 ≤ 0 := by decide
  have hl := lv_entry ([.ref a1]) (n := 3) (Nat.le_of_ble_eq_true rfl)
  rw [lg_entry_eq]
  generalize (lg_sl ([.ref a1]) ++ List.replicate (3 - (lg_sl ([.ref a1])).length) Slot.unset).toArray = ls at hl ⊢
  have hl : lv_has ls 3 [(0, .ref a1)] := hl
  unfold w_WH_isLong at w
  refine lv_aload_n hx hb d_WH_isLong_0 rfl (lv_at hl 0 rfl) ?_
  obtain ⟨t2, w⟩ := w
  refine hb_calll (va_runV (As := []) (rest := []) ⟨hx, hb, hml, hown, hts⟩ (m_WH_lowestLong G a1 h0 hst w) (cwV 0 hts (zx_gV wd_508 wd_510 wd_s11 wd_2 wd_511) rfl rfl rfl (by decide +kernel) ⟨Nat.le_of_ble_eq_true rfl, Nat.le_of_ble_eq_true rfl⟩) (hb_preV hK hX hW t2 (by decide) rfl) rfl rfl hl.1 rfl (lv_room (Nat.le_of_ble_eq_true rfl)) d_WH_isLong_1 ⟨(by show _ ≤ 0; omega), (by show _ ≤ 0; omega)⟩) hW (fun r4 h3 H locs hk hW => ?_)
  obtain ⟨w, mm5⟩ := hk
  have w := w mm5
  have hm := hm.tr mm5
  have t6 := mm5.tg t2 (by decide)
  refine lv_lstore_n (lv' := [(1, .long r4), (0, .ref a1)]) hx hb d_WH_isLong_4 rfl hl (by decide) rfl (fun ls hl => ?_)
  refine lv_aload_n hx hb d_WH_isLong_5 rfl (lv_at hl 1 rfl) ?_
  refine hb_get (ci := 2) (C := "BigDesk$Whole") (T := T_WH) (N := 3) hx hb hts (fun w9 h9 => List.mem_cons_of_mem _ (u_WH w9 h9)) hown hK hW t6 rfl (by decide) 1 (by decide) (hw wd_37) (fun _ h9 => h9) (q := (0, 0)) rfl (v := .int (ah_I h3 0 a1)) rfl d_WH_isLong_6 ?_
  refine lv_iconst (v := 2) hx hb d_WH_isLong_9 (by decide) ?_
  refine lv_icmp_gt (tgt := 38) hx hb d_WH_isLong_10 (by decide) (fun c7 => ?_) (fun c7 => ?_)
  · have w := w.1 c7
    exact tb_WH_isLong_38 C (by omega) (by omega)   h3 _ _ _ w hm hW (lv_sub hl [] rfl)
  · have w := w.2 c7
    refine lv_lload_n hx hb d_WH_isLong_13 rfl (lv_at hl 0 rfl) ?_
    refine lv_lconst (v := 0) hx hb d_WH_isLong_14 (by decide) ?_
    refine hb_lcmp_ge (tgt := 34) hx hb d_WH_isLong_15 d_WH_isLong_16 (by decide) (fun c12 => ?_) (fun c12 => ?_)
    · have w := w.1 c12
      exact tb_WH_isLong_34 C (by omega) (by omega)   h3 _ _ _ w hm hW (lv_sub hl [] rfl)
    · have w := w.2 c12
      refine lv_aload_n hx hb d_WH_isLong_19 rfl (lv_at hl 1 rfl) ?_
      refine hb_get (ci := 2) (C := "BigDesk$Whole") (T := T_WH) (N := 3) hx hb hts (fun w9 h9 => List.mem_cons_of_mem _ (u_WH w9 h9)) hown hK hW t6 rfl (by decide) 2 (by decide) (hw wd_43) (fun _ h9 => h9) (q := (0, 1)) rfl (v := .int (ah_I h3 1 a1)) rfl d_WH_isLong_20 ?_
      refine lv_if_eq (tgt := 38) hx hb d_WH_isLong_23 (by decide) (fun c14 => ?_) (fun c14 => ?_)
      · have w := w.1 c14
        exact tb_WH_isLong_38 C (by omega) (by omega)   h3 _ _ _ w hm hW (lv_sub hl [] rfl)
      · have w := w.2 c14
        refine lv_lload_n hx hb d_WH_isLong_26 rfl (lv_at hl 0 rfl) ?_
        refine lv_ldc2 (v := -9223372036854775808) hx hb hown (hw wd_523) d_WH_isLong_27 ?_
        refine hb_lcmp_ne (tgt := 38) hx hb d_WH_isLong_30 d_WH_isLong_31 (by decide) (fun c15 => ?_) (fun c15 => ?_)
        · have w := w.1 c15
          exact tb_WH_isLong_38 C (by omega) (by omega)   h3 _ _ _ w hm hW (lv_sub hl [] rfl)
        · have w := w.2 c15
          exact tb_WH_isLong_34 C (by omega) (by omega)   h3 _ _ _ w hm hW (lv_sub hl [] rfl)
set_option maxHeartbeats 4000000 in
set_option maxRecDepth 100000 in
theorem tl_WH_appendChunk_5 {p : Program} {l : Launch} {e : Env} {s : State} {m : MethodId} {args : Array Value} {below : List Frame} {meth : Method} {c : Code} {G : zG} (C : cx_C p l s m args meth c G y_WH_appendChunk b_WH_appendChunk 8 none "BigDesk$Whole") {K : ah_H → Prop} {h0 : ah_H} {cells slots : Nat} (hcl : cells + 0 ≤ 0) (hsl : slots + 0 ≤ 0) {xt_54 : Nat → Int64 → ah_H → Prop} (hc_xt_54 : ∀ (z0 : Nat) (z1 : Int64) (hz : ah_H) (H : Heap) (locs : List Loc) (ls : Array Slot), xt_54 z0 z1 hz → ah_m h0 hz → ah_W G s.heap hz H locs → lv_has ls 8 [(0, .ref z0), (3, .long z1)] → W p l e rm_WH_appendChunk s m args below meth c H locs cells slots (MQ below (va_Qv (fun h9 => K h9 ∧ ah_m h0 h9) (ah_B G) (fun q => G.2.2 ≤ q)) args s 0 0 (fun q => G.2.2 ≤ q)) (F0 m 54 ls [])) : ∀ (n : Nat) (x3 : Nat) (x4 : Int64) (x5 : Int32) (h6 : ah_H) (H : Heap) (locs : List Loc) (ls : Array Slot), lp_WH_appendChunk_5 xt_54 K n x3 x4 x5 h6 → ah_m h0 h6 → ah_W G s.heap h6 H locs → lv_has ls 8 [(0, .ref x3), (3, .long x4), (5, .int x5)] → W p l e rm_WH_appendChunk s m args below meth c H locs cells slots (MQ below (va_Qv (fun h9 => K h9 ∧ ah_m h0 h9) (ah_B G) (fun q => G.2.2 ≤ q)) args s 0 0 (fun q => G.2.2 ≤ q)) (F0 m 5 ls []) := by
  obtain ⟨hx, hb, hr, hml, hown, hts, hlk, hK, hX, hout, hin, hst⟩ := id C
  have hw : ∀ {w9 : Cond}, w9 ∈ zx_T → w9.before args s = true := fun h9 => hts _ (List.mem_cons_of_mem _ h9)
  intro n
  induction n with
  | zero =>
    intro x3 x4 x5 h6 H locs ls w
    exact absurd w (by intro z9; exact z9)
  | succ n ih =>
    intro x3 x4 x5 h6 H locs ls w hm hW hl
    unfold lp_WH_appendChunk_5 at w
    refine lv_iload hx hb d_WH_appendChunk_5 (lv_at hl 2 rfl) ?_
    refine lv_aload_n hx hb d_WH_appendChunk_7 rfl (lv_at hl 0 rfl) ?_
    obtain ⟨t7, w⟩ := w
    refine hb_get (ci := 2) (C := "BigDesk$Whole") (T := T_WH) (N := 3) hx hb hts (fun w9 h9 => List.mem_cons_of_mem _ (u_WH w9 h9)) hown hK hW t7 rfl (by decide) 1 (by decide) (hw wd_37) (fun _ h9 => h9) (q := (0, 0)) rfl (v := .int (ah_I h6 0 x3)) rfl d_WH_appendChunk_8 ?_
    refine lv_icmp_ge (tgt := 54) hx hb d_WH_appendChunk_11 (by decide) (fun c8 => ?_) (fun c8 => ?_)
    · have w := w.1 c8
      exact hc_xt_54 x3 x4 h6 _ _ _ w hm hW (lv_sub hl [0, 1] rfl)
    · have w := w.2 c8
      refine lv_aload_n hx hb d_WH_appendChunk_14 rfl (lv_at hl 0 rfl) ?_
      obtain ⟨q9, e10, w⟩ := w
      refine hb_get (ci := 2) (C := "BigDesk$Whole") (T := T_WH) (N := 3) hx hb hts (fun w9 h9 => List.mem_cons_of_mem _ (u_WH w9 h9)) hown hK hW t7 rfl (by decide) 0 (by decide) (hw wd_33) (fun _ h9 => h9) (q := (2, 5)) rfl (v := .ref q9) (ah_f_R e10) d_WH_appendChunk_15 ?_
      refine lv_iload hx hb d_WH_appendChunk_18 (lv_at hl 2 rfl) ?_
      obtain ⟨t11, w⟩ := w
      obtain ⟨i12, w⟩ := w
      refine hb_lald hx hb hK hW t11 (by decide) (by decide) 2 rfl i12 d_WH_appendChunk_20 ?_
      refine lv_ldc2 (v := 1000000000) hx hb hown (hw wd_571) d_WH_appendChunk_21 ?_
      refine lv_lmul hx hb d_WH_appendChunk_24 ?_
      refine lv_lload_n hx hb d_WH_appendChunk_25 rfl (lv_at hl 1 rfl) ?_
      refine lv_ladd hx hb d_WH_appendChunk_26 ?_
      refine lv_topl (fun v13 ev13 => ?_)
      have w := w v13 ev13
      refine lv_lstore (lv' := [(6, .long v13), (0, .ref x3), (3, .long x4), (5, .int x5)]) hx hb d_WH_appendChunk_27 hl (by decide) rfl (fun ls hl => ?_)
      refine lv_aload_n hx hb d_WH_appendChunk_29 rfl (lv_at hl 1 rfl) ?_
      obtain ⟨q14, e15, w⟩ := w
      refine hb_get (ci := 2) (C := "BigDesk$Whole") (T := T_WH) (N := 3) hx hb hts (fun w9 h9 => List.mem_cons_of_mem _ (u_WH w9 h9)) hown hK hW t7 rfl (by decide) 0 (by decide) (hw wd_33) (fun _ h9 => h9) (q := (2, 5)) rfl (v := .ref q14) (ah_f_R e15) d_WH_appendChunk_30 ?_
      refine lv_iload hx hb d_WH_appendChunk_33 (lv_at hl 3 rfl) ?_
      refine lv_lload hx hb d_WH_appendChunk_35 (lv_at hl 0 rfl) ?_
      refine lv_ldc2 (v := 4294967295) hx hb hown (hw wd_217) d_WH_appendChunk_37 ?_
      refine lv_land hx hb d_WH_appendChunk_40 ?_
      refine lv_topl (fun v16 ev16 => ?_)
      have w := w v16 ev16
      obtain ⟨t17, w⟩ := w
      obtain ⟨i18, w⟩ := w
      refine hb_last hx hb hK hW t17 (by decide) (by decide) 2 rfl i18 d_WH_appendChunk_41 (fun H locs h19 eh19 hW => ?_)
      have w := w h19 eh19
      have mm20 : ah_m h6 h19 := ah_m.rf.st (by rw [eh19]; rfl) (by rw [eh19]; rfl)
      have hm := hm.tr mm20
      have t21 := mm20.tg t7 (by decide)
      have t22 := mm20.tg t11 (by decide)
      have t23 := mm20.tg t17 (by decide)
      refine lv_lload hx hb d_WH_appendChunk_42 (lv_at hl 0 rfl) ?_
      refine lv_bipush (v := 32) hx hb d_WH_appendChunk_44 (by decide) ?_
      refine lv_lushr hx hb d_WH_appendChunk_46 rfl ?_
      refine lv_topl (fun v24 ev24 => ?_)
      have w := w v24 ev24
      refine lv_lstore_n (lv' := [(3, .long v24), (6, .long v13), (0, .ref x3), (5, .int x5)]) hx hb d_WH_appendChunk_47 rfl hl (by decide) rfl (fun ls hl => ?_)
      obtain ⟨v25, ev25⟩ : ∃ y9 : Int32, y9 = x5 + 1 := ⟨_, rfl⟩
      have w := w v25 ev25
      refine lv_iinc (v := v25) (lv' := [(5, .int v25), (3, .long v24), (6, .long v13), (0, .ref x3)]) hx hb d_WH_appendChunk_48 hl (k := 3) rfl (by rw [ev25]; rfl) (by decide) rfl (fun ls hl => ?_)
      refine lv_goto (tgt := 5) hx hb d_WH_appendChunk_51 (by decide) ?_
      exact ih x3 v24 v25 h19 _ _ _ w hm hW (lv_sub hl [3, 1, 0] rfl)
set_option maxHeartbeats 4000000 in
set_option maxRecDepth 100000 in
theorem tb_WH_appendChunk_90 {p : Program} {l : Launch} {e : Env} {s : State} {m : MethodId} {args : Array Value} {below : List Frame} {meth : Method} {c : Code} {G : zG} (C : cx_C p l s m args meth c G y_WH_appendChunk b_WH_appendChunk 8 none "BigDesk$Whole") {K : ah_H → Prop} {h0 : ah_H} {cells slots : Nat} (hcl : cells + 0 ≤ 0) (hsl : slots + 0 ≤ 0)   (h30 : ah_H) (H : Heap) (locs : List Loc) (ls : Array Slot) (w : bk_WH_appendChunk_90 K h30) (hm : ah_m h0 h30) (hW : ah_W G s.heap h30 H locs) (hl : lv_has ls 8 []) : W p l e rm_WH_appendChunk s m args below meth c H locs cells slots (MQ below (va_Qv (fun h9 => K h9 ∧ ah_m h0 h9) (ah_B G) (fun q => G.2.2 ≤ q)) args s 0 0 (fun q => G.2.2 ≤ q)) (F0 m 90 ls []) := by
  unfold bk_WH_appendChunk_90 at w
  obtain ⟨hx, hb, hr, hml, hown, hts, hlk, hK, hX, hout, hin, hst⟩ := id C
  have hw : ∀ {w9 : Cond}, w9 ∈ zx_T → w9.before args s = true := fun h9 => hts _ (List.mem_cons_of_mem _ h9)
  exact hb_vret (K := fun h9 => K h9 ∧ ah_m h0 h9) hx hb hr hlk hK hX hW ⟨w, hm⟩ (by omega) (by omega) d_WH_appendChunk_90
set_option maxHeartbeats 4000000 in
set_option maxRecDepth 100000 in
theorem m_WH_appendChunk {l : Launch} (G : zG) (a1 : Nat) (a2 : Int64) (h0 : ah_H) {K : ah_H → Prop} (hst : l.stackTraces = false) (w : w_WH_appendChunk a1 a2 h0 K) : Met l y_WH_appendChunk (Cond.code y_WH_appendChunk b_WH_appendChunk 8 none :: zx_T) rm_WH_appendChunk (va_Pc [.ref a1, .long a2] (ah_B G h0)) (va_Qv (fun h9 => K h9 ∧ ah_m h0 h9) (ah_B G) (fun q => G.2.2 ≤ q)) 0 0 (fun q => G.2.2 ≤ q) := by
  refine Met.ofW (cc := b_WH_appendChunk) (maxL := 8) (ret := none) (by decide) rfl ?_
  intro p e s m args below meth c s₁ B hml hv
  have hout : ∀ x ∈ c.exceptionTable.toList, False := cx_out B (atoms_spec B.pre _ List.mem_cons_self)
  obtain ⟨rfl, hB⟩ := hv
  have C : cx_C p l s m _ meth c G y_WH_appendChunk b_WH_appendChunk 8 none "BigDesk$Whole" := ⟨B.exec, B.bytes, B.returns, hml, findClass_of_methodNamed B.named, atoms_spec B.pre, B.notSynchronized, hB.2.2.1, hB.2.2.2, hout, fun z9 => (name_of_methodNamed B.named B.method).1.trans z9, hst⟩
  obtain ⟨hx, hb, hr, hml, hown, hts, hlk, hK, hX, hout, hin, hst⟩ := id C
  have hw : ∀ {w9 : Cond}, w9 ∈ zx_T → w9.before _ s = true := fun h9 => hts _ (List.mem_cons_of_mem _ h9)
  have hW : ah_W G s.heap h0 s.heap [] := ⟨hB.1, hB.2.1, va_S.rf⟩
  have hm : ah_m h0 h0 := ah_m.rf
  have hcl : 0 + 0 ≤ 0 := by decide
  have hsl : 0 + 0 ≤ 0 := by decide
  have hl := lv_entry ([.ref a1, .long a2]) (n := 8) (Nat.le_of_ble_eq_true rfl)
  rw [lg_entry_eq]
  generalize (lg_sl ([.ref a1, .long a2]) ++ List.replicate (8 - (lg_sl ([.ref a1, .long a2])).length) Slot.unset).toArray = ls at hl ⊢
  have hl : lv_has ls 8 [(0, .ref a1), (1, .long a2)] := hl
  unfold w_WH_appendChunk at w
  refine lv_lload_n hx hb d_WH_appendChunk_0 rfl (lv_at hl 1 rfl) ?_
  refine lv_lstore_n (lv' := [(3, .long a2), (0, .ref a1), (1, .long a2)]) hx hb d_WH_appendChunk_1 rfl hl (by decide) rfl (fun ls hl => ?_)
  refine lv_iconst (v := 0) hx hb d_WH_appendChunk_2 (by decide) ?_
  refine lv_istore (lv' := [(5, .int (0 : Int32)), (3, .long a2), (0, .ref a1), (1, .long a2)]) hx hb d_WH_appendChunk_3 hl (by decide) rfl (fun ls hl => ?_)
  obtain ⟨k46, w⟩ := w
  refine tl_WH_appendChunk_5 C hcl hsl (fun x26 x27 h28 H locs ls w hm hW hl => ?_) k46 a1 a2 (0 : Int32) h0 _ _ _ w hm hW (lv_sub hl [2, 1, 0] rfl)
  · refine lv_lload_n hx hb d_WH_appendChunk_54 rfl (lv_at hl 1 rfl) ?_
    refine lv_lconst (v := 0) hx hb d_WH_appendChunk_55 (by decide) ?_
    refine hb_lcmp_le (tgt := 90) hx hb d_WH_appendChunk_56 d_WH_appendChunk_57 (by decide) (fun c29 => ?_) (fun c29 => ?_)
    · have w := w.1 c29
      exact tb_WH_appendChunk_90 C (by omega) (by omega)   h28 _ _ _ w hm hW (lv_sub hl [] rfl)
    · have w := w.2 c29
      refine lv_aload_n hx hb d_WH_appendChunk_60 rfl (lv_at hl 0 rfl) ?_
      obtain ⟨t31, w⟩ := w
      refine hb_get (ci := 2) (C := "BigDesk$Whole") (T := T_WH) (N := 3) hx hb hts (fun w9 h9 => List.mem_cons_of_mem _ (u_WH w9 h9)) hown hK hW t31 rfl (by decide) 1 (by decide) (hw wd_37) (fun _ h9 => h9) (q := (0, 0)) rfl (v := .int (ah_I h28 0 x26)) rfl d_WH_appendChunk_61 ?_
      refine lv_sipush (v := 258) hx hb d_WH_appendChunk_64 (by decide) ?_
      refine lv_icmp_ge (tgt := 90) hx hb d_WH_appendChunk_67 (by decide) (fun c32 => ?_) (fun c32 => ?_)
      · have w := w.1 c32
        exact tb_WH_appendChunk_90 C (by omega) (by omega)   h28 _ _ _ w hm hW (lv_sub hl [] rfl)
      · have w := w.2 c32
        refine lv_aload_n hx hb d_WH_appendChunk_70 rfl (lv_at hl 0 rfl) ?_
        obtain ⟨q33, e34, w⟩ := w
        refine hb_get (ci := 2) (C := "BigDesk$Whole") (T := T_WH) (N := 3) hx hb hts (fun w9 h9 => List.mem_cons_of_mem _ (u_WH w9 h9)) hown hK hW t31 rfl (by decide) 0 (by decide) (hw wd_33) (fun _ h9 => h9) (q := (2, 5)) rfl (v := .ref q33) (ah_f_R e34) d_WH_appendChunk_71 ?_
        refine lv_aload_n hx hb d_WH_appendChunk_74 rfl (lv_at hl 0 rfl) ?_
        refine hb_get (ci := 2) (C := "BigDesk$Whole") (T := T_WH) (N := 3) hx hb hts (fun w9 h9 => List.mem_cons_of_mem _ (u_WH w9 h9)) hown hK hW t31 rfl (by decide) 1 (by decide) (hw wd_37) (fun _ h9 => h9) (q := (0, 0)) rfl (v := .int (ah_I h28 0 x26)) rfl d_WH_appendChunk_75 ?_
        refine lv_lload_n hx hb d_WH_appendChunk_78 rfl (lv_at hl 1 rfl) ?_
        obtain ⟨t35, w⟩ := w
        obtain ⟨i36, w⟩ := w
        refine hb_last hx hb hK hW t35 (by decide) (by decide) 2 rfl i36 d_WH_appendChunk_79 (fun H locs h37 eh37 hW => ?_)
        have w := w h37 eh37
        have mm38 : ah_m h28 h37 := ah_m.rf.st (by rw [eh37]; rfl) (by rw [eh37]; rfl)
        have hm := hm.tr mm38
        have t39 := mm38.tg t31 (by decide)
        have t40 := mm38.tg t35 (by decide)
        refine lv_aload_n hx hb d_WH_appendChunk_80 rfl (lv_at hl 0 rfl) ?_
        refine lv_dup hx hb d_WH_appendChunk_81 rfl ?_
        refine hb_get (ci := 2) (C := "BigDesk$Whole") (T := T_WH) (N := 3) hx hb hts (fun w9 h9 => List.mem_cons_of_mem _ (u_WH w9 h9)) hown hK hW t39 rfl (by decide) 1 (by decide) (hw wd_37) (fun _ h9 => h9) (q := (0, 0)) rfl (v := .int (ah_I h37 0 x26)) rfl d_WH_appendChunk_82 ?_
        refine lv_iconst (v := 1) hx hb d_WH_appendChunk_85 (by decide) ?_
        refine lv_iadd hx hb d_WH_appendChunk_86 ?_
        refine lv_topi (fun v41 ev41 => ?_)
        have w := w v41 ev41
        refine hb_put (ci := 2) (C := "BigDesk$Whole") (T := T_WH) (N := 3) hx hb hts (fun w9 h9 => List.mem_cons_of_mem _ (u_WH w9 h9)) t_WH o_WH n_WH hown hK hW t39 rfl (by decide) 1 (by decide) (hw wd_37) (fun _ h9 => h9) rfl (ty := t_WH 1) (by decide +kernel) (q := (0, 0)) rfl (by decide) (v := .int v41) rfl rfl (ah_one_I h37 0 x26 v41) d_WH_appendChunk_87 (fun H locs h42 eh42 hW => ?_)
        have w := w h42 eh42
        have mm43 : ah_m h37 h42 := ah_m.rf.st (by rw [eh42]; rfl) (by rw [eh42]; rfl)
        have hm := hm.tr mm43
        have t44 := mm43.tg t39 (by decide)
        have t45 := mm43.tg t40 (by decide)
        exact tb_WH_appendChunk_90 C (by omega) (by omega)   h42 _ _ _ w hm hW (lv_sub hl [] rfl)
set_option maxHeartbeats 4000000 in
set_option maxRecDepth 100000 in
theorem tl_WH_takeChunk_9 {p : Program} {l : Launch} {e : Env} {s : State} {m : MethodId} {args : Array Value} {below : List Frame} {meth : Method} {c : Code} {G : zG} (C : cx_C p l s m args meth c G y_WH_takeChunk b_WH_takeChunk 6 (some .long) "BigDesk$Whole") {K : Int64 → ah_H → Prop} {h0 : ah_H} {cells slots : Nat} (hcl : cells + 0 ≤ 0) (hsl : slots + 0 ≤ 0) {xt_51 : Nat → Int64 → ah_H → Prop} (hc_xt_51 : ∀ (z0 : Nat) (z1 : Int64) (hz : ah_H) (H : Heap) (locs : List Loc) (ls : Array Slot), xt_51 z0 z1 hz → ah_m h0 hz → ah_W G s.heap hz H locs → lv_has ls 6 [(0, .ref z0), (1, .long z1)] → W p l e rm_WH_takeChunk s m args below meth c H locs cells slots (MQ below (va_Ql (fun r9 h9 => K r9 h9 ∧ ah_m h0 h9) (ah_B G) (fun q => G.2.2 ≤ q)) args s 0 0 (fun q => G.2.2 ≤ q)) (F0 m 51 ls [])) : ∀ (n : Nat) (x4 : Nat) (x5 : Int64) (x6 : Int32) (h7 : ah_H) (H : Heap) (locs : List Loc) (ls : Array Slot), lp_WH_takeChunk_9 xt_51 K n x4 x5 x6 h7 → ah_m h0 h7 → ah_W G s.heap h7 H locs → lv_has ls 6 [(0, .ref x4), (1, .long x5), (3, .int x6)] → W p l e rm_WH_takeChunk s m args below meth c H locs cells slots (MQ below (va_Ql (fun r9 h9 => K r9 h9 ∧ ah_m h0 h9) (ah_B G) (fun q => G.2.2 ≤ q)) args s 0 0 (fun q => G.2.2 ≤ q)) (F0 m 9 ls []) := by
  obtain ⟨hx, hb, hr, hml, hown, hts, hlk, hK, hX, hout, hin, hst⟩ := id C
  have hw : ∀ {w9 : Cond}, w9 ∈ zx_T → w9.before args s = true := fun h9 => hts _ (List.mem_cons_of_mem _ h9)
  intro n
  induction n with
  | zero =>
    intro x4 x5 x6 h7 H locs ls w
    exact absurd w (by intro z9; exact z9)
  | succ n ih =>
    intro x4 x5 x6 h7 H locs ls w hm hW hl
    unfold lp_WH_takeChunk_9 at w
    refine lv_iload_n hx hb d_WH_takeChunk_9 rfl (lv_at hl 2 rfl) ?_
    refine lv_if_lt (tgt := 51) hx hb d_WH_takeChunk_10 (by decide) (fun c8 => ?_) (fun c8 => ?_)
    · have w := w.1 c8
      exact hc_xt_51 x4 x5 h7 _ _ _ w hm hW (lv_sub hl [0, 1] rfl)
    · have w := w.2 c8
      refine lv_lload_n hx hb d_WH_takeChunk_13 rfl (lv_at hl 1 rfl) ?_
      refine lv_bipush (v := 32) hx hb d_WH_takeChunk_14 (by decide) ?_
      refine lv_lshl hx hb d_WH_takeChunk_16 rfl ?_
      refine lv_aload_n hx hb d_WH_takeChunk_17 rfl (lv_at hl 0 rfl) ?_
      obtain ⟨t9, w⟩ := w
      obtain ⟨q10, e11, w⟩ := w
      refine hb_get (ci := 2) (C := "BigDesk$Whole") (T := T_WH) (N := 3) hx hb hts (fun w9 h9 => List.mem_cons_of_mem _ (u_WH w9 h9)) hown hK hW t9 rfl (by decide) 0 (by decide) (hw wd_33) (fun _ h9 => h9) (q := (2, 5)) rfl (v := .ref q10) (ah_f_R e11) d_WH_takeChunk_18 ?_
      refine lv_iload_n hx hb d_WH_takeChunk_21 rfl (lv_at hl 2 rfl) ?_
      obtain ⟨t12, w⟩ := w
      obtain ⟨i13, w⟩ := w
      refine hb_lald hx hb hK hW t12 (by decide) (by decide) 2 rfl i13 d_WH_takeChunk_22 ?_
      refine lv_lor hx hb d_WH_takeChunk_23 ?_
      refine lv_topl (fun v14 ev14 => ?_)
      have w := w v14 ev14
      refine lv_lstore (lv' := [(4, .long v14), (0, .ref x4), (1, .long x5), (3, .int x6)]) hx hb d_WH_takeChunk_24 hl (by decide) rfl (fun ls hl => ?_)
      refine lv_aload_n hx hb d_WH_takeChunk_26 rfl (lv_at hl 1 rfl) ?_
      obtain ⟨q15, e16, w⟩ := w
      refine hb_get (ci := 2) (C := "BigDesk$Whole") (T := T_WH) (N := 3) hx hb hts (fun w9 h9 => List.mem_cons_of_mem _ (u_WH w9 h9)) hown hK hW t9 rfl (by decide) 0 (by decide) (hw wd_33) (fun _ h9 => h9) (q := (2, 5)) rfl (v := .ref q15) (ah_f_R e16) d_WH_takeChunk_27 ?_
      refine lv_iload_n hx hb d_WH_takeChunk_30 rfl (lv_at hl 3 rfl) ?_
      refine lv_lload hx hb d_WH_takeChunk_31 (lv_at hl 0 rfl) ?_
      refine lv_ldc2 (v := 1000000000) hx hb hown (hw wd_571) d_WH_takeChunk_33 ?_
      refine lv_ldiv hx hb d_WH_takeChunk_36 (by decide) ?_
      refine lv_topl (fun v17 ev17 => ?_)
      have w := w v17 ev17
      obtain ⟨t18, w⟩ := w
      obtain ⟨i19, w⟩ := w
      refine hb_last hx hb hK hW t18 (by decide) (by decide) 2 rfl i19 d_WH_takeChunk_37 (fun H locs h20 eh20 hW => ?_)
      have w := w h20 eh20
      have mm21 : ah_m h7 h20 := ah_m.rf.st (by rw [eh20]; rfl) (by rw [eh20]; rfl)
      have hm := hm.tr mm21
      have t22 := mm21.tg t9 (by decide)
      have t23 := mm21.tg t12 (by decide)
      have t24 := mm21.tg t18 (by decide)
      refine lv_lload hx hb d_WH_takeChunk_38 (lv_at hl 0 rfl) ?_
      refine lv_ldc2 (v := 1000000000) hx hb hown (hw wd_571) d_WH_takeChunk_40 ?_
      refine lv_lrem hx hb d_WH_takeChunk_43 (by decide) ?_
      refine lv_topl (fun v25 ev25 => ?_)
      have w := w v25 ev25
      refine lv_lstore_n (lv' := [(1, .long v25), (4, .long v14), (0, .ref x4), (3, .int x6)]) hx hb d_WH_takeChunk_44 rfl hl (by decide) rfl (fun ls hl => ?_)
      obtain ⟨v26, ev26⟩ : ∃ y9 : Int32, y9 = x6 + (-1) := ⟨_, rfl⟩
      have w := w v26 ev26
      refine lv_iinc (v := v26) (lv' := [(3, .int v26), (1, .long v25), (4, .long v14), (0, .ref x4)]) hx hb d_WH_takeChunk_45 hl (k := 3) rfl (by rw [ev26]; rfl) (by decide) rfl (fun ls hl => ?_)
      refine lv_goto (tgt := 9) hx hb d_WH_takeChunk_48 (by decide) ?_
      exact ih x4 v25 v26 h20 _ _ _ w hm hW (lv_sub hl [3, 1, 0] rfl)
set_option maxHeartbeats 4000000 in
set_option maxRecDepth 100000 in
theorem m_WH_takeChunk {l : Launch} (G : zG) (a1 : Nat) (h0 : ah_H) {K : Int64 → ah_H → Prop} (hst : l.stackTraces = false) (w : w_WH_takeChunk a1 h0 K) : Met l y_WH_takeChunk (Cond.code y_WH_takeChunk b_WH_takeChunk 6 (some .long) :: zx_T) rm_WH_takeChunk (va_Pc [.ref a1] (ah_B G h0)) (va_Ql (fun r9 h9 => K r9 h9 ∧ ah_m h0 h9) (ah_B G) (fun q => G.2.2 ≤ q)) 0 0 (fun q => G.2.2 ≤ q) := by
  refine Met.ofW (cc := b_WH_takeChunk) (maxL := 6) (ret := (some .long)) (by decide) rfl ?_
  intro p e s m args below meth c s₁ B hml hv
  have hout : ∀ x ∈ c.exceptionTable.toList, False := cx_out B (atoms_spec B.pre _ List.mem_cons_self)
  obtain ⟨rfl, hB⟩ := hv
  have C : cx_C p l s m _ meth c G y_WH_takeChunk b_WH_takeChunk 6 (some .long) "BigDesk$Whole" := ⟨B.exec, B.bytes, B.returns, hml, findClass_of_methodNamed B.named, atoms_spec B.pre, B.notSynchronized, hB.2.2.1, hB.2.2.2, hout, fun z9 => (name_of_methodNamed B.named B.method).1.trans z9, hst⟩
  obtain ⟨hx, hb, hr, hml, hown, hts, hlk, hK, hX, hout, hin, hst⟩ := id C
  have hw : ∀ {w9 : Cond}, w9 ∈ zx_T → w9.before _ s = true := fun h9 => hts _ (List.mem_cons_of_mem _ h9)
  have hW : ah_W G s.heap h0 s.heap [] := ⟨hB.1, hB.2.1, va_S.rf⟩
  have hm : ah_m h0 h0 := ah_m.rf
  have hcl : 0 + 0 ≤ 0 := by decide
  have hsl : 0 + 0 ≤ 0 := by decide
  have hl := lv_entry ([.ref a1]) (n := 6) (Nat.le_of_ble_eq_true rfl)
  rw [lg_entry_eq]
  generalize (lg_sl ([.ref a1]) ++ List.replicate (6 - (lg_sl ([.ref a1])).length) Slot.unset).toArray = ls at hl ⊢
  have hl : lv_has ls 6 [(0, .ref a1)] := hl
  unfold w_WH_takeChunk at w
  refine lv_lconst (v := 0) hx hb d_WH_takeChunk_0 (by decide) ?_
  refine lv_lstore_n (lv' := [(1, .long (0 : Int64)), (0, .ref a1)]) hx hb d_WH_takeChunk_1 rfl hl (by decide) rfl (fun ls hl => ?_)
  refine lv_aload_n hx hb d_WH_takeChunk_2 rfl (lv_at hl 1 rfl) ?_
  obtain ⟨t2, w⟩ := w
  refine hb_get (ci := 2) (C := "BigDesk$Whole") (T := T_WH) (N := 3) hx hb hts (fun w9 h9 => List.mem_cons_of_mem _ (u_WH w9 h9)) hown hK hW t2 rfl (by decide) 1 (by decide) (hw wd_37) (fun _ h9 => h9) (q := (0, 0)) rfl (v := .int (ah_I h0 0 a1)) rfl d_WH_takeChunk_3 ?_
  refine lv_iconst (v := 1) hx hb d_WH_takeChunk_6 (by decide) ?_
  refine lv_isub hx hb d_WH_takeChunk_7 ?_
  refine lv_topi (fun v3 ev3 => ?_)
  have w := w v3 ev3
  refine lv_istore_n (lv' := [(3, .int v3), (1, .long (0 : Int64)), (0, .ref a1)]) hx hb d_WH_takeChunk_8 rfl hl (by decide) rfl (fun ls hl => ?_)
  obtain ⟨k34, w⟩ := w
  refine tl_WH_takeChunk_9 C hcl hsl (fun x27 x28 h29 H locs ls w hm hW hl => ?_) k34 a1 (0 : Int64) v3 h0 _ _ _ w hm hW (lv_sub hl [2, 1, 0] rfl)
  · refine lv_aload_n hx hb d_WH_takeChunk_51 rfl (lv_at hl 0 rfl) ?_
    refine lv_aload_n hx hb d_WH_takeChunk_52 rfl (lv_at hl 0 rfl) ?_
    obtain ⟨t30, w⟩ := w
    refine hb_get (ci := 2) (C := "BigDesk$Whole") (T := T_WH) (N := 3) hx hb hts (fun w9 h9 => List.mem_cons_of_mem _ (u_WH w9 h9)) hown hK hW t30 rfl (by decide) 1 (by decide) (hw wd_37) (fun _ h9 => h9) (q := (0, 0)) rfl (v := .int (ah_I h29 0 x27)) rfl d_WH_takeChunk_53 ?_
    refine hb_callv (va_runV (As := [.int (ah_I h29 0 x27)]) (rest := []) ⟨hx, hb, hml, hown, hts⟩ (m_WH_settle G x27 (ah_I h29 0 x27) h29 hst w) (cwV 1 hts (zx_gV wd_218 wd_219 wd_220 wd_2 wd_221) rfl rfl rfl (by decide +kernel) ⟨Nat.le_of_ble_eq_true rfl, Nat.le_of_ble_eq_true rfl⟩) (hb_preV hK hX hW t30 (by decide) rfl) rfl rfl hl.1 rfl (lv_room (Nat.le_of_ble_eq_true rfl)) d_WH_takeChunk_56 ⟨(by show _ ≤ 0; omega), (by show _ ≤ 0; omega)⟩) hW (fun h31 H locs hk hW => ?_)
    obtain ⟨w, mm32⟩ := hk
    have w := w mm32
    have hm := hm.tr mm32
    have t33 := mm32.tg t30 (by decide)
    refine lv_lload_n hx hb d_WH_takeChunk_59 rfl (lv_at hl 1 rfl) ?_
    exact hb_lret (K := fun r9 h9 => K r9 h9 ∧ ah_m h0 h9) hx hb hr hlk hK hX hW ⟨w, hm⟩ (by omega) (by omega) d_WH_takeChunk_60
end
