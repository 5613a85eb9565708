section HC1
/-- what a method's walk stands on -/
def cx_C (p : Program) (l : Launch) (s : State) (m : MethodId) (args : Array Value) (meth : Method) (c : Code) (G : zG) (y : MethodName) (cc : ByteArray) (nL : Nat) (ret : Option FieldType) (own : String) (Ts : List Cond) (tb : List ExceptionTableEntry) : Prop :=
  p.tables.exec = Jvm.exec ∧ c.code = cc ∧ meth.sig.returnType = ret ∧ c.maxLocals = nL ∧ s.vm.findClass own = some m.cls ∧ (∀ w ∈ Ts, w.before args s = true) ∧ (∀ w ∈ zx_T, w ∈ Ts) ∧ meth.locks = false ∧ ah_K G s ∧ zx_X G s ∧ c.exceptionTable.toList = tb ∧ (y.name = "<init>" → meth.name = "<init>") ∧ l.stackTraces = false
theorem cx_out {p : Program} {l : Launch} {y : MethodName} {S : Spec} {cc : ByteArray} {maxL : Nat} {ret : Option FieldType} {e : Env} {s s₁ : State} {m : MethodId} {args : Array Value} {below : List Frame} {meth : Method} {c : Code} (B : BodyLoose p l y S cc maxL ret e s m args below meth c s₁) (h : (Cond.code y cc maxL ret).before args s = true) : c.exceptionTable.toList = [] := by
  have h1 := B.noHandlers h
  rw [Array.isEmpty_iff] at h1
  rw [h1]
theorem cx_nil {c : Code} (h : c.exceptionTable.toList = []) : ∀ x ∈ c.exceptionTable.toList, False := fun x hx => by
  rw [h] at hx
  cases hx
theorem cx_hd {w : Cond} : ∀ w9 ∈ zx_T, w9 ∈ w :: zx_T := fun _ h => List.mem_cons_of_mem _ h
theorem zb_n {x : Int32} (h : x = 0 ∨ x = 1) : narrow .boolean (.int x) = .int x := by rcases h with rfl | rfl <;> rfl
theorem zb_f {x : Int32} (h : x = 0 ∨ x = 1) : fits .boolean (.int x) = true := by rcases h with rfl | rfl <;> rfl
theorem ah_f_R {h : ah_H} {a no b : Nat} (e : ah_R h no a = some b) : ah_f h a (2, no) = .ref b := by
  show va_rf (ah_R h no a) = _
  rw [e]
  rfl
theorem ah_nwJ {G : zG} (h : ah_H) (N : Nat) : ∀ (q : Nat) (cA : ClassId), ∃ x : vp_A, ah_E G (ah_new h q 110 N) q = .inl (G.2.1 110, x) ∧ vp_cell cA x = arrV cA N (fun _ => defaultValue (newarray.typeOf .long)) := fun q cA => by
  refine ⟨(N, .inr (.inl fun _ => 0)), ?_, rfl⟩
  rw [ah_E_long (t := 110) (show ah_T (ah_new h q 110 N) q = 110 from va_up_self _ _ _) (by decide) (by decide)]
  show Sum.inl (G.2.1 110, va_up (ah_N h) q N q, Sum.inr (Sum.inl (va_up (ah_bL h) q (fun _ => 0) q))) = _
  rw [va_up_self, va_up_self]
theorem ah_nwI {G : zG} (h : ah_H) (N : Nat) : ∀ (q : Nat) (cA : ClassId), ∃ x : vp_A, ah_E G (ah_new h q 100 N) q = .inl (G.2.1 100, x) ∧ vp_cell cA x = arrV cA N (fun _ => defaultValue (newarray.typeOf .int)) := fun q cA => by
  refine ⟨(N, .inl fun _ => 0), ?_, rfl⟩
  rw [ah_E_int (t := 100) (show ah_T (ah_new h q 100 N) q = 100 from va_up_self _ _ _) (by decide) (by decide)]
  show Sum.inl (G.2.1 100, va_up (ah_N h) q N q, Sum.inl (va_up (ah_bI h) q (fun _ => 0) q)) = _
  rw [va_up_self, va_up_self]
theorem ah_nwB {G : zG} (h : ah_H) (N : Nat) : ∀ (q : Nat) (cA : ClassId), ∃ x : vp_A, ah_E G (ah_new h q 101 N) q = .inl (G.2.1 101, x) ∧ vp_cell cA x = arrV cA N (fun _ => defaultValue (newarray.typeOf .byte)) := fun q cA => by
  refine ⟨(N, .inl fun _ => 0), ?_, rfl⟩
  rw [ah_E_int (t := 101) (show ah_T (ah_new h q 101 N) q = 101 from va_up_self _ _ _) (by decide) (by decide)]
  show Sum.inl (G.2.1 101, va_up (ah_N h) q N q, Sum.inl (va_up (ah_bI h) q (fun _ => 0) q)) = _
  rw [va_up_self, va_up_self]
theorem u_CD : ∀ w ∈ u_ws "BigDesk$CommonDivisor" T_CD 6, w ∈ zx_T := by decide +kernel
theorem f_CD : ∀ j, j < 6 → defaultValue (t_CD j) = vp_V ((ah_tab.getD 0 []).map ah_d) j := fun j hj => by rcases (show j = 0 ∨ j = 1 ∨ j = 2 ∨ j = 3 ∨ j = 4 ∨ j = 5 by omega) with rfl | rfl | rfl | rfl | rfl | rfl <;> rfl
theorem u_DV : ∀ w ∈ u_ws "BigDesk$Division" T_DV 3, w ∈ zx_T := by decide +kernel
theorem f_DV : ∀ j, j < 3 → defaultValue (t_DV j) = vp_V ((ah_tab.getD 1 []).map ah_d) j := fun j hj => by rcases (show j = 0 ∨ j = 1 ∨ j = 2 by omega) with rfl | rfl | rfl <;> rfl
theorem u_WH : ∀ w ∈ u_ws "BigDesk$Whole" T_WH 3, w ∈ zx_T := by decide +kernel
theorem f_WH : ∀ j, j < 3 → defaultValue (t_WH j) = vp_V ((ah_tab.getD 2 []).map ah_d) j := fun j hj => by rcases (show j = 0 ∨ j = 1 ∨ j = 2 by omega) with rfl | rfl | rfl <;> rfl
theorem u_BD : ∀ w ∈ u_ws "BigDesk" T_BD 9, w ∈ zx_T := by decide +kernel
theorem f_BD : ∀ j, j < 9 → defaultValue (t_BD j) = vp_V ((ah_tab.getD 3 []).map ah_d) j := fun j hj => by rcases (show j = 0 ∨ j = 1 ∨ j = 2 ∨ j = 3 ∨ j = 4 ∨ j = 5 ∨ j = 6 ∨ j = 7 ∨ j = 8 by omega) with rfl | rfl | rfl | rfl | rfl | rfl | rfl | rfl | rfl <;> rfl
theorem u_MO : ∀ w ∈ u_ws "BigDeskModel" T_MO 8, w ∈ zx_T := by decide +kernel
theorem f_MO : ∀ j, j < 8 → defaultValue (t_MO j) = vp_V ((ah_tab.getD 4 []).map ah_d) j := fun j hj => by rcases (show j = 0 ∨ j = 1 ∨ j = 2 ∨ j = 3 ∨ j = 4 ∨ j = 5 ∨ j = 6 ∨ j = 7 by omega) with rfl | rfl | rfl | rfl | rfl | rfl | rfl | rfl <;> rfl
theorem zx_rtf : ∀ n ∈ zx_rt, Bundle.fit n = true := by decide +kernel
theorem zx_aIllegalArgumentException : ∀ w ∈ vx_atS "BigDesk" 116 "java/lang/IllegalArgumentException" zx_rt, w ∈ lw_tbl ∧ (goodWord w || zx_kind w) = true := by decide +kernel
theorem zx_gIllegalArgumentException : ∀ w ∈ Cond.classLink "BigDesk" 112 "java/lang/IllegalArgumentException" :: Cond.initialized "java/lang/IllegalArgumentException" :: vx_atS "BigDesk" 116 "java/lang/IllegalArgumentException" zx_rt, vx_ot w = true := by decide +kernel
theorem zx_aIllegalStateException : ∀ w ∈ vx_atS "BigDesk" 88 "java/lang/IllegalStateException" zx_rt, w ∈ lw_tbl ∧ (goodWord w || zx_kind w) = true := by decide +kernel
theorem zx_gIllegalStateException : ∀ w ∈ Cond.classLink "BigDesk" 84 "java/lang/IllegalStateException" :: Cond.initialized "java/lang/IllegalStateException" :: vx_atS "BigDesk" 88 "java/lang/IllegalStateException" zx_rt, vx_ot w = true := by decide +kernel
theorem zx_aArithmeticException : ∀ w ∈ vx_atS "BigDesk" 124 "java/lang/ArithmeticException" zx_rt, w ∈ lw_tbl ∧ (goodWord w || zx_kind w) = true := by decide +kernel
theorem zx_gArithmeticException : ∀ w ∈ Cond.classLink "BigDesk" 120 "java/lang/ArithmeticException" :: Cond.initialized "java/lang/ArithmeticException" :: vx_atS "BigDesk" 124 "java/lang/ArithmeticException" zx_rt, vx_ot w = true := by decide +kernel
theorem zx_nest_BD_15 : (Cond.methodLinkNest "BigDesk" (15 : Nat) y_WH_init "BigDesk") ∈ lw_tbl := List.mem_of_getElem? (i := 61) rfl
theorem zx_nest_BD_25 : (Cond.methodLinkNest "BigDesk" (25 : Nat) y_DV_init "BigDesk") ∈ lw_tbl := List.mem_of_getElem? (i := 90) rfl
theorem zx_nest_DV_11 : (Cond.methodLinkNest "BigDesk$Division" (11 : Nat) y_WH_init "BigDesk") ∈ lw_tbl := List.mem_of_getElem? (i := 95) rfl
theorem zx_nest_BD_32 : (Cond.methodLinkNest "BigDesk" (32 : Nat) y_CD_init "BigDesk") ∈ lw_tbl := List.mem_of_getElem? (i := 111) rfl
theorem zx_nest_CD_11 : (Cond.methodLinkNest "BigDesk$CommonDivisor" (11 : Nat) y_WH_init "BigDesk") ∈ lw_tbl := List.mem_of_getElem? (i := 116) rfl
section HC2
variable {p : Program} {l : Launch} {e : Env} {R : Room} {s : State} {m : MethodId} {args : Array Value} {below : List Frame} {meth : Method} {c : Code} {H : Heap} {locs : List Loc} {cells slots : Nat} {Q : State → Prop}
variable {cc : ByteArray} {pc : Nat} {ls : Array Slot} {rest : List Value} {G : zG} {h : ah_H} {a : Nat}
theorem zx_aoW : Cond.arrayOver (.object "BigDesk$Whole") ∈ lw_tbl := by decide +kernel
theorem hb_newq (hexec : p.tables.exec = Jvm.exec) (hb : c.code = cc) {own : String} {index : Nat} (hown : s.vm.findClass own = some m.cls) (hclink : (Cond.classLink own index "BigDesk$Whole").before args s = true) (hK : ah_K G s) (hX : zx_X G s) (hW : ah_W G s.heap h H locs) {n : Int32} {N : Nat} (hn : ¬ n < 0) (hN : n.toNatClampNeg = N) (hbytes : N * 4 ≤ 536870912) (hcells : cells + 1 ≤ R.cells) (hslots : slots + N ≤ R.slots) (hdg : decode cc pc = .ok (.anewarray index, 3)) (kk : ∀ (q : Nat) (H1 : Heap), ah_T h q = 0 → ah_W G s.heap (ah_new h q 120 N) H1 locs → W p l e R s m args below meth c H1 locs (cells + 1) (slots + N) Q (F0 m (pc + 3) ls (.ref q :: rest))) : W p l e R s m args below meth c H locs cells slots Q (F0 m pc ls (.int n :: rest)) := by
  obtain ⟨hz, ⟨L, hL, hP, hD⟩, hS⟩ := hW
  refine va_newq hexec hb hown hclink (hX.1 _ zx_aoW rfl) hK hP hD hS (fun q hq => Nat.le_trans hz hq) hn hN hbytes hcells hslots hdg (fun q cA H1 hK1 hP1 hD1 hS1 => ?_)
  have h9 := (hK.2 3 (G.2.1 120, .object "BigDesk$Whole") rfl).2
  have h8 := (hK1.2 4 (cA, .object "BigDesk$Whole") rfl).2
  obtain ⟨_, _, -, -, -, f1⟩ := h9
  obtain ⟨_, _, -, -, -, f2⟩ := h8
  have hcA : cA = G.2.1 120 := Option.some.inj (f2.symm.trans f1)
  subst hcA
  obtain ⟨h0, hW1⟩ := ah_push (t := 120) (n := N) hz hL hP1 hD1 hS1 (by
    rw [ah_E_ref (t := 120) (show ah_T (ah_new h q 120 N) q = 120 from va_up_self _ _ _) (by decide)]
    show Sum.inl (G.2.1 120, va_up (ah_N h) q N q, Sum.inr (Sum.inr (Sum.inr (Sum.inr (va_up (ah_bR h) q (fun _ => none) q))))) = _
    rw [va_up_self, va_up_self])
  exact kk q H1 h0 hW1
end HC2
end HC1
