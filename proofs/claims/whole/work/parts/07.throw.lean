section HX1
/-- a thrown exception: its class, the abstract heap behind it -/
def ah_X (G : zG) (Ex : String → ah_H → Prop) : String → State → State → Prop := fun E st t => ∃ u : ah_H, Ex E u ∧ ah_Q G u t.heap ∧ va_F (fun q => G.2.2 ≤ q) st t
variable {p : Program} {l : Launch} {e : Env} {R : Room} {s : State} {m : MethodId} {args : Array Value} {below : List Frame} {meth : Method} {c : Code} {H : Heap} {locs : List Loc} {cells slots : Nat} {Q : State → Prop}
variable {cc : ByteArray} {pc : Nat} {ls : Array Slot} {rest : List Value} {G : zG} {h : ah_H} {a : Nat}
variable {st0 : List Value} {mc ms : Nat} {av : Array Value}
theorem hx_run {Ex : String → ah_H → Prop} {Qa : State → Outcome → State → Prop} (hr : vx_Run p l e R s m args below meth c H locs cells slots mc ms (F0 m pc ls st0) rest Qa (ah_X G Ex) (fun q => G.2.2 ≤ q)) (hW : ah_W G s.heap h H locs) (hQ : ∀ st o t, Qa st o t → va_F (fun q => G.2.2 ≤ q) st t)
    (kx : ∀ (E : String) (ce : Cell) (q9 : Addr) (h' : ah_H) (H1 : Heap) (locs1 : List Loc), Ex E h' → ah_W G s.heap h' H1 locs1 → H1[q9]? = some ce → ce.vm = .none → s.vm.findClass E = some ce.cls → vx_W p l e R s m args below meth c H1 locs1 (cells + mc) (slots + ms) Q (F0 m pc ls rest) q9)
    (kk : ∀ (v : Option Value) (st t : State) (H1 : Heap) (locs1 : List Loc), Qa st (.returned v) t → t.heap = H1 → va_S (fun q => G.2.2 ≤ q) s.heap H1 locs1 → W p l e R s m args below meth c H1 locs1 (cells + mc) (slots + ms) Q (F0 m (pc + 3) ls (v.toList ++ rest))) : W p l e R s m args below meth c H locs cells slots Q (F0 m pc ls st0) := by
  intro T hT X
  rcases hr T hT X with ⟨v, st₀, t, T', L, h0, X', hL, e1, e2, hq, st⟩ | ⟨q, st₀, t, T', L, E, ce, h0, X', hL, e1, e2, ⟨u, hE, hu, hF⟩, hce, hcv, hcl, st⟩
  · obtain ⟨k1, k2, k3⟩ := vx_keep h0 e1 hW.2.2 (fun _ _ h => h) (fun _ h => h) hL (hQ _ _ _ hq)
    obtain ⟨t2, a1, b1⟩ := kk v st₀ t T'.heap (locs ++ L) hq e1.symm k3 T' rfl X'
    exact ⟨t2, st t2 a1, b1⟩
  · obtain ⟨k1, k2, k3⟩ := vx_keep h0 e1 hW.2.2 (fun _ _ h => h) (fun _ h => h) hL hF
    obtain ⟨t2, a1, b1⟩ := kx E ce q u T'.heap (locs ++ L) hE ⟨hW.1, by rw [e1]; exact hu, k3⟩ (by rw [e1]; exact hce) hcv hcl T' rfl X'
    exact ⟨t2, st.trans a1, b1⟩
theorem hx_v {K : ah_H → Prop} {Ex : String → ah_H → Prop} (hr : vx_Run p l e R s m args below meth c H locs cells slots mc ms (F0 m pc ls st0) rest (va_Qv K (ah_B G) (fun q => G.2.2 ≤ q) av) (ah_X G Ex) (fun q => G.2.2 ≤ q)) (hW : ah_W G s.heap h H locs)
    (kx : ∀ (E : String) (ce : Cell) (q9 : Addr) (h' : ah_H) (H1 : Heap) (locs1 : List Loc), Ex E h' → ah_W G s.heap h' H1 locs1 → H1[q9]? = some ce → ce.vm = .none → s.vm.findClass E = some ce.cls → vx_W p l e R s m args below meth c H1 locs1 (cells + mc) (slots + ms) Q (F0 m pc ls rest) q9)
    (kk : ∀ (h' : ah_H) (H1 : Heap) (locs1 : List Loc), K h' → ah_W G s.heap h' H1 locs1 → W p l e R s m args below meth c H1 locs1 (cells + mc) (slots + ms) Q (F0 m (pc + 3) ls rest)) : W p l e R s m args below meth c H locs cells slots Q (F0 m pc ls st0) :=
  hx_run hr hW (fun _ _ _ h => h.2) kx (fun v st t H1 locs1 hq ht hS => by
    obtain ⟨⟨u, hv, hk, hB⟩, -⟩ := hq
    cases hv
    exact kk u H1 locs1 hk (hW.joined ht hB hS))
theorem hx_i {K : Int32 → ah_H → Prop} {Ex : String → ah_H → Prop} (hr : vx_Run p l e R s m args below meth c H locs cells slots mc ms (F0 m pc ls st0) rest (va_Qi K (ah_B G) (fun q => G.2.2 ≤ q) av) (ah_X G Ex) (fun q => G.2.2 ≤ q)) (hW : ah_W G s.heap h H locs)
    (kx : ∀ (E : String) (ce : Cell) (q9 : Addr) (h' : ah_H) (H1 : Heap) (locs1 : List Loc), Ex E h' → ah_W G s.heap h' H1 locs1 → H1[q9]? = some ce → ce.vm = .none → s.vm.findClass E = some ce.cls → vx_W p l e R s m args below meth c H1 locs1 (cells + mc) (slots + ms) Q (F0 m pc ls rest) q9)
    (kk : ∀ (r : Int32) (h' : ah_H) (H1 : Heap) (locs1 : List Loc), K r h' → ah_W G s.heap h' H1 locs1 → W p l e R s m args below meth c H1 locs1 (cells + mc) (slots + ms) Q (F0 m (pc + 3) ls (.int r :: rest))) : W p l e R s m args below meth c H locs cells slots Q (F0 m pc ls st0) :=
  hx_run hr hW (fun _ _ _ h => h.2) kx (fun v st t H1 locs1 hq ht hS => by
    obtain ⟨⟨r, u, hv, hk, hB⟩, -⟩ := hq
    cases hv
    exact kk r u H1 locs1 hk (hW.joined ht hB hS))
theorem hx_l {K : Int64 → ah_H → Prop} {Ex : String → ah_H → Prop} (hr : vx_Run p l e R s m args below meth c H locs cells slots mc ms (F0 m pc ls st0) rest (va_Ql K (ah_B G) (fun q => G.2.2 ≤ q) av) (ah_X G Ex) (fun q => G.2.2 ≤ q)) (hW : ah_W G s.heap h H locs)
    (kx : ∀ (E : String) (ce : Cell) (q9 : Addr) (h' : ah_H) (H1 : Heap) (locs1 : List Loc), Ex E h' → ah_W G s.heap h' H1 locs1 → H1[q9]? = some ce → ce.vm = .none → s.vm.findClass E = some ce.cls → vx_W p l e R s m args below meth c H1 locs1 (cells + mc) (slots + ms) Q (F0 m pc ls rest) q9)
    (kk : ∀ (r : Int64) (h' : ah_H) (H1 : Heap) (locs1 : List Loc), K r h' → ah_W G s.heap h' H1 locs1 → W p l e R s m args below meth c H1 locs1 (cells + mc) (slots + ms) Q (F0 m (pc + 3) ls (.long r :: rest))) : W p l e R s m args below meth c H locs cells slots Q (F0 m pc ls st0) :=
  hx_run hr hW (fun _ _ _ h => h.2) kx (fun v st t H1 locs1 hq ht hS => by
    obtain ⟨⟨r, u, hv, hk, hB⟩, -⟩ := hq
    cases hv
    exact kk r u H1 locs1 hk (hW.joined ht hB hS))
theorem hx_r {K : Nat → ah_H → Prop} {Ex : String → ah_H → Prop} (hr : vx_Run p l e R s m args below meth c H locs cells slots mc ms (F0 m pc ls st0) rest (ah_Qr G K av) (ah_X G Ex) (fun q => G.2.2 ≤ q)) (hW : ah_W G s.heap h H locs)
    (kx : ∀ (E : String) (ce : Cell) (q9 : Addr) (h' : ah_H) (H1 : Heap) (locs1 : List Loc), Ex E h' → ah_W G s.heap h' H1 locs1 → H1[q9]? = some ce → ce.vm = .none → s.vm.findClass E = some ce.cls → vx_W p l e R s m args below meth c H1 locs1 (cells + mc) (slots + ms) Q (F0 m pc ls rest) q9)
    (kk : ∀ (r : Nat) (h' : ah_H) (H1 : Heap) (locs1 : List Loc), K r h' → ah_W G s.heap h' H1 locs1 → W p l e R s m args below meth c H1 locs1 (cells + mc) (slots + ms) Q (F0 m (pc + 3) ls (.ref r :: rest))) : W p l e R s m args below meth c H locs cells slots Q (F0 m pc ls st0) :=
  hx_run hr hW (fun _ _ _ h => h.2) kx (fun v st t H1 locs1 hq ht hS => by
    obtain ⟨⟨u, r, hv, hk, rfl, hB⟩, -⟩ := hq
    cases hv
    exact kk u.1 u.2 H1 locs1 hk (hW.joined ht hB hS))
theorem hx_out {Ex : String → ah_H → Prop} {Qc : Array Value → State → Outcome → State → Prop} {E : String} {ce : Cell} {q : Addr} {mc ms : Nat} (hout : ∀ x ∈ c.exceptionTable.toList, covers x pc = false) (hlk : meth.locks = false) (hW : ah_W G s.heap h H locs) (hcell : H[q]? = some ce) (hv : ce.vm = .none) (hcl : s.vm.findClass E = some ce.cls) (hE : Ex E h) (hc : cells ≤ mc) (hs : slots ≤ ms) : vx_W p l e R s m args below meth c H locs cells slots (vx_MQ below Qc (ah_X G Ex) args s mc ms (fun q => G.2.2 ≤ q)) (F0 m pc ls rest) q :=
  vx_out hout hlk hcell hv hcl (fun t ht _ => ⟨h, hE, by rw [ht]; exact hW.2.1, hW.2.2.F ht⟩) hW.2.2.2.2 hc hs
theorem zx_use {w : Cond} {Ts : List Cond} (hts : ∀ w ∈ Ts, w.before args s = true) (hT : ∀ w ∈ zx_T, w ∈ Ts) (hX : zx_X G s) (hw : w ∈ lw_tbl) (hk : (goodWord w || zx_kind w) = true) : w.before args s = true := by
  rcases Bool.or_eq_true_iff.mp hk with h1 | h1
  · exact hts w (hT w (List.mem_filter.mpr ⟨hw, h1⟩))
  · have h2 := hX.1 w hw h1
    cases w with
    | methodLinkNest => exact va_Nw.use rfl h2
    | declares => exact va_Nw.use rfl h2
    | castable => exact va_Nw.use rfl h2
    | arrayOver ty =>
      cases ty with
      | object C => exact va_AO.use h2
      | _ => cases h1
    | _ => cases h1
theorem ah_Q.kept {t : State} (hQ : ah_Q G h H) (h2 : ∀ q : Nat, q < H.size → t.heap[q]? = H[q]?) : ah_Q G h t.heap := by
  obtain ⟨L, hL, hP, hD⟩ := hQ
  exact ⟨L, hL, hP.kept (fun k q hk => h2 q.1 ((hP k q hk).lt)), hD⟩
abbrev zx_rt : List String := ["java/lang/RuntimeException", "java/lang/Exception"]
theorem hx_throw {Ex : String → ah_H → Prop} {Qc : Array Value → State → Outcome → State → Prop} {Ts : List Cond} (hexec : p.tables.exec = Jvm.exec) (hb : c.code = cc) (hl : l.stackTraces = false) {cls text : String} {ik is ic mc ms : Nat} (hown : s.vm.findClass "BigDesk" = some m.cls) (hts : ∀ w ∈ Ts, w.before args s = true) (hT : ∀ w ∈ zx_T, w ∈ Ts) (hX : zx_X G s) (hcls : Bundle.fit cls = true) (hnames : ∀ n ∈ zx_rt, Bundle.fit n = true) (hk : Cond.classLink "BigDesk" ik cls ∈ zx_T) (hini : Cond.initialized cls ∈ zx_T) (hstr : (is, text) ∈ zx_str) (hat : ∀ w ∈ vx_atS "BigDesk" ic cls zx_rt, w ∈ lw_tbl ∧ (goodWord w || zx_kind w) = true) (hgood : ∀ w ∈ Cond.classLink "BigDesk" ik cls :: Cond.initialized cls :: vx_atS "BigDesk" ic cls zx_rt, vx_ot w = true) (hW : ah_W G s.heap h H locs) (hsize : ls.size = c.maxLocals) (d0 : decode cc pc = .ok (.new ik, 3)) (d3 : decode cc (pc + 3) = .ok (.dup, 1)) (d4 : decode cc (pc + 4) = .ok (.ldc is, 2)) (d6 : decode cc (pc + 6) = .ok (.invokespecial ic, 3)) (d9 : decode cc (pc + 9) = .ok (.athrow, 1)) (hout : ∀ x ∈ c.exceptionTable.toList, False) (hRframes : 5 < R.frames) (hRlocals : (rest.map fun v => v.category).sum + 82 ≤ R.locals) (hRcells : cells + 1 ≤ R.cells) (hRslots : slots + 6 ≤ R.slots) (hlk : meth.locks = false) (hE : Ex cls h) (hc : cells + 1 ≤ mc) (hs : slots + 6 ≤ ms) : W p l e R s m args below meth c H locs cells slots (vx_MQ below Qc (ah_X G Ex) args s mc ms (fun q => G.2.2 ≤ q)) (F0 m pc ls rest) := by
  obtain ⟨sa, hsa⟩ := hX.2.1 _ hstr
  exact vx_throwS (names := zx_rt) hexec hb hl hown hcls hnames (hts _ (hT _ hk)) (hts _ (hT _ hini)) hsa (fun w hw => zx_use hts hT hX (hat w hw).1 (hat w hw).2) hgood hX.2.2.2.1 hX.2.2.2.2 hW.2.2 hsize d0 d3 d4 d6 d9 (fun x hx => (hout x hx).elim) hRframes hRlocals hRcells hRslots hlk (fun t _ h1 h2 => ⟨h, hE, hW.2.1.kept h2, Nat.le_trans hW.2.2.1 h1, fun q h3 h4 => (h2 q (Nat.lt_of_lt_of_le h3 hW.2.2.1)).trans (hW.2.2.2.1 q h3 h4)⟩) hW.2.2.2.2 hc hs
theorem zx_gT {Ts : List Cond} (hT : ∀ w ∈ zx_T, w ∈ Ts) {w : Cond} (h : w ∈ zx_T) : w ∈ Ts ∧ ((w.onTables && w.keeps) = true ∨ ∃ ty, w = .arrayClass ty) := ⟨hT w h, good_of_word (List.mem_filter.mp h).2⟩
theorem zx_gV {Ts : List Cond} (hT : ∀ w ∈ zx_T, w ∈ Ts) {own C : String} {idx : Nat} {y' : MethodName} {w1 : Cond} (h1 : Cond.methodLink own idx y' ∈ zx_T) (h2 : Cond.instanceMethod y' ∈ zx_T) (h3 : Cond.selects C y' y' ∈ zx_T) (h4 : Cond.initialized C ∈ zx_T) (h5 : w1 ∈ zx_T) : GoodIn Ts (wsV own idx C y' (w1 :: zx_T)) := by
  intro w hw
  unfold wsV at hw
  simp only [List.cons_append, List.nil_append, List.mem_cons] at hw
  rcases hw with rfl | rfl | rfl | rfl | rfl | hw
  · exact zx_gT hT h1
  · exact zx_gT hT h2
  · exact zx_gT hT h3
  · exact zx_gT hT h4
  · exact zx_gT hT h5
  · exact zx_gT hT hw
theorem zx_gS {Ts : List Cond} (hT : ∀ w ∈ zx_T, w ∈ Ts) {own : String} {idx : Nat} {y' : MethodName} {w1 : Cond} (h1 : Cond.methodLink own idx y' ∈ zx_T) (h2 : Cond.static y' ∈ zx_T) (h4 : Cond.initialized y'.cls ∈ zx_T) (h5 : w1 ∈ zx_T) : GoodIn Ts (va_wsS own idx y' (w1 :: zx_T)) := by
  intro w hw
  unfold va_wsS at hw
  simp only [List.cons_append, List.nil_append, List.mem_cons] at hw
  rcases hw with rfl | rfl | rfl | rfl | hw
  · exact zx_gT hT h1
  · exact zx_gT hT h2
  · exact zx_gT hT h4
  · exact zx_gT hT h5
  · exact zx_gT hT hw
theorem zx_gB {Ts : List Cond} (hT : ∀ w ∈ zx_T, w ∈ Ts) {w1 : Cond} (h5 : w1 ∈ zx_T) : GoodIn Ts (w1 :: zx_T) := by
  intro w hw
  rcases List.mem_cons.mp hw with rfl | hw
  · exact zx_gT hT h5
  · exact zx_gT hT hw
end HX1
