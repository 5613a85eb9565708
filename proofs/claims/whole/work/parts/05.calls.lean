section HB3
def ah_d (q : Nat × Nat) : Value := if q.1 = 0 then .int 0 else if q.1 = 1 then .long 0 else .null
theorem ah_f_new (h : ah_H) (a t n : Nat) : ah_f (ah_new h a t n) a = ah_d := funext fun q => by
  unfold ah_f ah_d
  show (if q.1 = 0 then Value.int (if a = a then 0 else ah_I h q.2 a) else if q.1 = 1 then Value.long (if a = a then 0 else ah_L h q.2 a) else if q.1 = 2 then va_rf (if a = a then none else ah_R h q.2 a) else Value.null) = _
  simp only [if_true]
  by_cases h2 : q.1 = 2
  · simp [h2, va_rf]
  · simp [h2]
theorem ah_push {G : zG} {H0 H1 : Heap} {h : ah_H} {q t n : Nat} {e : va_E} {locs : List Loc} {L : List Nat} (hz : G.2.2 ≤ H0.size) (hL : ∀ b, ah_T h b ≠ 0 → b ∈ L) (hP1 : va_P G.1 ah_cl (va_pl L (ah_E G h) ++ [(q, e)]) H1) (hD1 : va_D (fun q => G.2.2 ≤ q) (va_pl L (ah_E G h) ++ [(q, e)])) (hS1 : va_S (fun q => G.2.2 ≤ q) H0 H1 locs) (he : ah_E G (ah_new h q t n) q = e) : ah_T h q = 0 ∧ ah_W G H0 (ah_new h q t n) H1 locs := by
  have hq : q ∉ L := fun hm => by
    obtain ⟨k, hk⟩ := va_pl_get (X := []) (f := ah_E G h) hm
    have hk' : (va_pl L (ah_E G h))[k]? = some (q, ah_E G h q) := hk
    have hlt := (List.getElem?_eq_some_iff.mp hk').1
    have := hD1.1 k (va_pl L (ah_E G h)).length (q, ah_E G h q) (q, e) (by rw [List.getElem?_append_left hlt]; exact hk') (by rw [List.getElem?_append_right (Nat.le_refl _), Nat.sub_self]; rfl) rfl
    omega
  have h0 : ah_T h q = 0 := Classical.byContradiction fun hn => hq (hL q hn)
  have hs : va_pl L (ah_E G h) ++ [(q, e)] = va_pl (L ++ [q]) (ah_E G (ah_new h q t n)) := by
    rw [va_pl_push hq, ah_up he (fun b hb => ah_E_new G h q t n hb)]
  rw [hs] at hP1 hD1
  refine ⟨h0, hz, ⟨L ++ [q], ?_, hP1, hD1⟩, hS1⟩
  intro b hb
  by_cases hbq : b = q
  · subst hbq
    simp
  · refine List.mem_append_left _ (hL b ?_)
    have : ah_T (ah_new h q t n) b = ah_T h b := va_up_ne _ _ hbq
    rw [← this]
    exact hb
theorem ah_K.moved {G : zG} {u U : State} (hvm : u.vm.Alike U.vm) (h : ah_K G u) : ah_K G U := va_K.moved hvm h
variable {p : Program} {l : Launch} {e : Env} {R : Room} {s : State} {m : MethodId} {args : Array Value} {below : List Frame} {meth : Method} {c : Code} {H : Heap} {locs : List Loc} {cells slots : Nat} {Q : State → Prop}
variable {cc : ByteArray} {pc : Nat} {ls : Array Slot} {rest : List Value} {G : zG} {h : ah_H} {a : Nat}
theorem hb_new (hexec : p.tables.exec = Jvm.exec) (hb : c.code = cc) {own C : String} {T : u_T} {N ci index : Nat} {Ts : List Cond} (hts : ∀ w ∈ Ts, w.before args s = true) (hin : ∀ w ∈ u_ws C T N, w ∈ Ts) (ty : Nat → FieldType) (hty : ∀ k, k < N → parseFieldDescriptor (T k).2.2.1 = some (ty k)) (hown : s.vm.findClass own = some m.cls) (hcl : (Cond.classLink own index C).before args s = true) (hinst : (Cond.instantiable C N).before args s = true) (hini : (Cond.initialized C).before args s = true) (hK : ah_K G s) (hW : ah_W G s.heap h H locs) (hc : ah_cl[ci]? = some (C, T, N)) (hci : ci < 99) (hfs : ∀ j, j < N → defaultValue (ty j) = vp_V ((ah_tab.getD ci []).map ah_d) j) (hcells : cells + 1 ≤ R.cells) (hslots : slots + N ≤ R.slots) (hdg : decode cc pc = .ok (.new index, 3)) (kk : ∀ (q : Nat) (H1 : Heap), ah_T h q = 0 → ah_W G s.heap (ah_new h q (ci + 1) 0) H1 locs → W p l e R s m args below meth c H1 locs (cells + 1) (slots + N) Q (F0 m (pc + 3) ls (.ref q :: rest))) : W p l e R s m args below meth c H locs cells slots Q (F0 m pc ls rest) := by
  obtain ⟨hz, ⟨L, hL, hP, hD⟩, hS⟩ := hW
  refine va_new hexec hb hts hin ty hty hown hcl hinst hini hK hP hD hS (fun q hq => Nat.le_trans hz hq) hc hfs hcells hslots hdg (fun q H1 hP1 hD1 hS1 => ?_)
  obtain ⟨h0, hW1⟩ := ah_push (t := ci + 1) (n := 0) hz hL hP1 hD1 hS1 (by rw [ah_E_obj (h := ah_new h q (ci + 1) 0) (a := q) (ci := ci) (show ah_T (ah_new h q (ci + 1) 0) q = ci + 1 from va_up_self _ _ _) hci, ah_f_new])
  exact kk q H1 h0 hW1
theorem hb_newa (hexec : p.tables.exec = Jvm.exec) (hb : c.code = cc) {atype : ArrayType} (harr : (Cond.arrayClass (newarray.typeOf atype)).before args s = true) (hK : ah_K G s) (hW : ah_W G s.heap h H locs) {t : Nat} (t0 : Nat) (hy : ah_tys[t0]? = some (t, newarray.typeOf atype)) {n : Int32} {N : Nat} (hn : ¬ n < 0) (hN : n.toNatClampNeg = N) (hbytes : N * componentBytes (newarray.typeOf atype) ≤ 536870912) (ha : ∀ (q : Nat) (cA : ClassId), ∃ x : vp_A, ah_E G (ah_new h q t N) q = .inl (G.2.1 t, x) ∧ vp_cell cA x = arrV cA N (fun _ => defaultValue (newarray.typeOf atype))) (hcells : cells + 1 ≤ R.cells) (hslots : slots + N ≤ R.slots) (hdg : decode cc pc = .ok (.newarray atype, 2)) (kk : ∀ (q : Nat) (H1 : Heap), ah_T h q = 0 → ah_W G s.heap (ah_new h q t N) H1 locs → W p l e R s m args below meth c H1 locs (cells + 1) (slots + N) Q (F0 m (pc + 2) ls (.ref q :: rest))) : W p l e R s m args below meth c H locs cells slots Q (F0 m pc ls (.int n :: rest)) := by
  obtain ⟨hz, ⟨L, hL, hP, hD⟩, hS⟩ := hW
  refine va_newaK (g := F0 m pc ls (.int n :: rest)) (N := N) hexec hb harr rfl hdg rfl hn hN hbytes hcells hslots (h := H.size) rfl (fun H' cA e1 z1 o1 hAr hf => ?_)
  have hcA : cA = G.2.1 t := by
    have h9 := (hK.2 t0 (G.2.1 t, newarray.typeOf atype) (by rw [List.getElem?_map, hy]; rfl)).2
    have h8 : s.vm.findClass ("[" ++ (newarray.typeOf atype).toString) = some (G.2.1 t) := by cases atype <;> exact h9
    exact Option.some.inj (hf.symm.trans h8)
  subst hcA
  obtain ⟨x, hx1, hx2⟩ := ha H.size (G.2.1 t)
  have hk : ∀ (k : Nat) (x : Nat × va_E), (va_pl L (ah_E G h))[k]? = some x → H'[x.1]? = H[x.1]? := fun k x hx => o1 x.1 ((hP k x hx).lt)
  have hP1 : va_P G.1 ah_cl (va_pl L (ah_E G h) ++ [(H.size, .inl (G.2.1 t, x))]) H' := by
    refine (hP.kept hk).app (fun k y hy => ?_)
    have hz : k < 1 := (List.getElem?_eq_some_iff.mp hy).1
    rw [show k = 0 by omega] at hy
    cases hy
    show H'[H.size]? = some (vp_cell (G.2.1 t) x)
    rw [hx2]
    exact e1
  obtain ⟨h0, hW1⟩ := ah_push (t := t) (n := N) hz hL hP1 (hD.push hP rfl (Nat.le_trans hz hS.1)) ⟨Nat.le_trans hS.1 (by omega), fun x h1 h2 => (o1 x (Nat.lt_of_lt_of_le h1 hS.1)).trans (hS.2.1 x h1 h2), hS.2.2⟩ hx1
  exact kk H.size H' h0 hW1
theorem hb_preS (hK : ah_K G s) (hX : zx_X G s) (hW : ah_W G s.heap h H locs) {As : List Value} : PreS s H (va_Pc As (ah_B G h)) As :=
  ⟨fun a U g mk q => ⟨q.1, q.2.1, q.2.2.1, ah_K.moved (u := U) (U := U.calling g mk a) (Vm.Alike.refl U.vm) q.2.2.2.1, zx_X.same (s := U) (U := U.calling g mk a) rfl rfl q.2.2.2.2⟩, fun U hU hWm => ⟨rfl, by rw [hU]; exact Nat.le_trans hW.1 hW.2.2.1, by rw [hU]; exact hW.2.1, ah_K.moved hWm.alike hK, zx_X.warm hWm (fun a h1 h2 => by rw [hU]; exact hW.2.2.2.1 a h1 h2) hX⟩⟩
theorem hb_preV (hK : ah_K G s) (hX : zx_X G s) (hW : ah_W G s.heap h H locs) {b ci : Nat} {q : vw_C} (ht : ah_T h b = ci + 1) (hci : ci < 99) (hc : ah_cl[ci]? = some q) {As : List Value} : PreV s H q.1 b (va_Pc (.ref b :: As) (ah_B G h)) As := by
  obtain ⟨L, k0, hL, hP, hD, ha, hk0⟩ := hW.cell ht (by omega)
  rw [ah_E_obj ht hci] at hk0
  exact ⟨(hb_preS (As := .ref b :: As) hK hX hW).1, va_recv hK hP hc hk0, (hb_preS (As := .ref b :: As) hK hX hW).2⟩
theorem ah_W.joined {H1 : Heap} {locs1 : List Loc} {h' : ah_H} {t : State} (hW : ah_W G s.heap h H locs) (ht : t.heap = H1) (hB : ah_B G h' t) (hS : va_S (fun q => G.2.2 ≤ q) s.heap H1 locs1) : ah_W G s.heap h' H1 locs1 := ⟨hW.1, by rw [← ht]; exact hB.2.1, hS⟩
variable {st0 : List Value} {mc ms : Nat} {av : Array Value}
theorem hb_callv {K : ah_H → Prop} (hr : va_Run p l e R s m args below meth c H locs cells slots mc ms (F0 m pc ls st0) rest (va_Qv K (ah_B G) (fun q => G.2.2 ≤ q) av) (fun q => G.2.2 ≤ q)) (hW : ah_W G s.heap h H locs) (kk : ∀ (h' : ah_H) (H1 : Heap) (locs1 : List Loc), K h' → ah_W G s.heap h' H1 locs1 → W p l e R s m args below meth c H1 locs1 (cells + mc) (slots + ms) Q (F0 m (pc + 3) ls rest)) : W p l e R s m args below meth c H locs cells slots Q (F0 m pc ls st0) :=
  va_callv hr hW.2.2 (fun _ _ h => h) (fun _ h => h) (fun u t H1 locs1 ht _ hk hB _ _ hS => kk u H1 locs1 hk (hW.joined ht hB hS))
theorem hb_calli {K : Int32 → ah_H → Prop} (hr : va_Run p l e R s m args below meth c H locs cells slots mc ms (F0 m pc ls st0) rest (va_Qi K (ah_B G) (fun q => G.2.2 ≤ q) av) (fun q => G.2.2 ≤ q)) (hW : ah_W G s.heap h H locs) (kk : ∀ (r : Int32) (h' : ah_H) (H1 : Heap) (locs1 : List Loc), K r h' → ah_W G s.heap h' H1 locs1 → W p l e R s m args below meth c H1 locs1 (cells + mc) (slots + ms) Q (F0 m (pc + 3) ls (.int r :: rest))) : W p l e R s m args below meth c H locs cells slots Q (F0 m pc ls st0) :=
  va_calli hr hW.2.2 (fun _ _ h => h) (fun _ h => h) (fun r u t H1 locs1 ht _ hk hB _ _ hS => kk r u H1 locs1 hk (hW.joined ht hB hS))
theorem hb_calll {K : Int64 → ah_H → Prop} (hr : va_Run p l e R s m args below meth c H locs cells slots mc ms (F0 m pc ls st0) rest (va_Ql K (ah_B G) (fun q => G.2.2 ≤ q) av) (fun q => G.2.2 ≤ q)) (hW : ah_W G s.heap h H locs) (kk : ∀ (r : Int64) (h' : ah_H) (H1 : Heap) (locs1 : List Loc), K r h' → ah_W G s.heap h' H1 locs1 → W p l e R s m args below meth c H1 locs1 (cells + mc) (slots + ms) Q (F0 m (pc + 3) ls (.long r :: rest))) : W p l e R s m args below meth c H locs cells slots Q (F0 m pc ls st0) :=
  va_calll hr hW.2.2 (fun _ _ h => h) (fun _ h => h) (fun r u t H1 locs1 ht _ hk hB _ _ hS => kk r u H1 locs1 hk (hW.joined ht hB hS))
def ah_Qr (G : zG) (K : Nat → ah_H → Prop) : Array Value → State → Outcome → State → Prop := va_Qr (S := Nat × ah_H) (fun u => K u.1 u.2) (fun u a t => a = u.1 ∧ ah_B G u.2 t) (fun q => G.2.2 ≤ q)
theorem hb_callr {K : Nat → ah_H → Prop} (hr : va_Run p l e R s m args below meth c H locs cells slots mc ms (F0 m pc ls st0) rest (ah_Qr G K av) (fun q => G.2.2 ≤ q)) (hW : ah_W G s.heap h H locs) (kk : ∀ (r : Nat) (h' : ah_H) (H1 : Heap) (locs1 : List Loc), K r h' → ah_W G s.heap h' H1 locs1 → W p l e R s m args below meth c H1 locs1 (cells + mc) (slots + ms) Q (F0 m (pc + 3) ls (.ref r :: rest))) : W p l e R s m args below meth c H locs cells slots Q (F0 m pc ls st0) :=
  va_callr hr hW.2.2 (fun _ _ h => h) (fun _ h => h) (fun u r t H1 locs1 ht _ hk hB _ _ hS => by
    obtain ⟨rfl, hB⟩ := hB
    exact kk u.1 u.2 H1 locs1 hk (hW.joined ht hB hS))
theorem ah_W.ends (hK : ah_K G s) (hX : zx_X G s) (hW : ah_W G s.heap h H locs) {t : State} (ht : t.heap = H) (hWm : s.WarmedH t.vm) : ah_B G h t := ⟨by rw [ht]; exact Nat.le_trans hW.1 hW.2.2.1, by rw [ht]; exact hW.2.1, ah_K.moved hWm.alike hK, zx_X.warm hWm (fun a h1 h2 => by rw [ht]; exact hW.2.2.2.1 a h1 h2) hX⟩
theorem hb_vret {K : ah_H → Prop} (hexec : p.tables.exec = Jvm.exec) (hb : c.code = cc) (hr : meth.sig.returnType = none) (hlk : meth.locks = false) (hK : ah_K G s) (hX : zx_X G s) (hW : ah_W G s.heap h H locs) (hk : K h) (h1 : cells ≤ mc) (h2 : slots ≤ ms) (hdg : decode cc pc = .ok (.return_, 1)) : W p l e R s m args below meth c H locs cells slots (MQ below (va_Qv K (ah_B G) (fun q => G.2.2 ≤ q)) args s mc ms (fun q => G.2.2 ≤ q)) (F0 m pc ls []) := by
  refine W.widen h1 h2 ?_
  exact W.vret hexec hb hr (fun t ht hWm => ⟨⟨h, rfl, hk, hW.ends hK hX ht hWm⟩, hW.2.2.F ht⟩) hW.2.2.2.2 hdg hlk
theorem hb_iret {K : Int32 → ah_H → Prop} {v : Int32} (hexec : p.tables.exec = Jvm.exec) (hb : c.code = cc) (hr : meth.sig.returnType = some .int) (hlk : meth.locks = false) (hK : ah_K G s) (hX : zx_X G s) (hW : ah_W G s.heap h H locs) (hk : K v h) (h1 : cells ≤ mc) (h2 : slots ≤ ms) (hdg : decode cc pc = .ok (.ireturn, 1)) : W p l e R s m args below meth c H locs cells slots (MQ below (va_Qi K (ah_B G) (fun q => G.2.2 ≤ q)) args s mc ms (fun q => G.2.2 ≤ q)) (F0 m pc ls [.int v]) := by
  refine W.widen h1 h2 ?_
  exact W.iret hexec hb hr (fun t ht hWm => ⟨⟨v, h, rfl, hk, hW.ends hK hX ht hWm⟩, hW.2.2.F ht⟩) hW.2.2.2.2 hdg hlk
theorem hb_zret {K : Int32 → ah_H → Prop} {v : Int32} (hexec : p.tables.exec = Jvm.exec) (hb : c.code = cc) (hr : meth.sig.returnType = some .boolean) (hlk : meth.locks = false) (hv : v = 0 ∨ v = 1) (hK : ah_K G s) (hX : zx_X G s) (hW : ah_W G s.heap h H locs) (hk : K v h) (h1 : cells ≤ mc) (h2 : slots ≤ ms) (hdg : decode cc pc = .ok (.ireturn, 1)) : W p l e R s m args below meth c H locs cells slots (MQ below (va_Qi K (ah_B G) (fun q => G.2.2 ≤ q)) args s mc ms (fun q => G.2.2 ≤ q)) (F0 m pc ls [.int v]) := by
  refine W.widen h1 h2 ?_
  exact W.zret hexec hb hr (by rcases hv with rfl | rfl <;> rfl) (fun t ht hWm => ⟨⟨v, h, rfl, hk, hW.ends hK hX ht hWm⟩, hW.2.2.F ht⟩) hW.2.2.2.2 hdg hlk
theorem hb_lret {K : Int64 → ah_H → Prop} {v : Int64} (hexec : p.tables.exec = Jvm.exec) (hb : c.code = cc) (hr : meth.sig.returnType = some .long) (hlk : meth.locks = false) (hK : ah_K G s) (hX : zx_X G s) (hW : ah_W G s.heap h H locs) (hk : K v h) (h1 : cells ≤ mc) (h2 : slots ≤ ms) (hdg : decode cc pc = .ok (.lreturn, 1)) : W p l e R s m args below meth c H locs cells slots (MQ below (va_Ql K (ah_B G) (fun q => G.2.2 ≤ q)) args s mc ms (fun q => G.2.2 ≤ q)) (F0 m pc ls [.long v]) := by
  refine W.widen h1 h2 ?_
  exact W.lret hexec hb hr (fun t ht hWm => ⟨⟨v, h, rfl, hk, hW.ends hK hX ht hWm⟩, hW.2.2.F ht⟩) hW.2.2.2.2 hdg hlk
theorem hb_aret {K : Nat → ah_H → Prop} {v : Nat} {C : String} (hexec : p.tables.exec = Jvm.exec) (hb : c.code = cc) (hr : meth.sig.returnType = some (.object C)) (hlk : meth.locks = false) (hK : ah_K G s) (hX : zx_X G s) (hW : ah_W G s.heap h H locs) (hk : K v h) (h1 : cells ≤ mc) (h2 : slots ≤ ms) (hdg : decode cc pc = .ok (.areturn, 1)) : W p l e R s m args below meth c H locs cells slots (MQ below (ah_Qr G K) args s mc ms (fun q => G.2.2 ≤ q)) (F0 m pc ls [.ref v]) := by
  refine W.widen h1 h2 ?_
  exact W.aret hexec hb hr (Or.inl ⟨_, rfl⟩) (Or.inr ⟨_, rfl⟩) (fun t ht hWm => ⟨⟨(v, h), v, rfl, hk, rfl, hW.ends hK hX ht hWm⟩, hW.2.2.F ht⟩) hW.2.2.2.2 hdg hlk
end HB3
