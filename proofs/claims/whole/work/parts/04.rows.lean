section HB2
theorem ah_E_sI (G : zG) (h : ah_H) (k a : Nat) (v : Int32) {b : Nat} (hb : b ≠ a) : ah_E G (ah_sI h k a v) b = ah_E G h b :=
  ah_E_same rfl rfl (fun j => by show ah_u2 (ah_I h) k a v j b = _; unfold ah_u2; rw [if_neg (fun q => hb q.2)]) (fun _ => rfl) (fun _ => rfl) rfl rfl rfl
theorem ah_E_sL (G : zG) (h : ah_H) (k a : Nat) (v : Int64) {b : Nat} (hb : b ≠ a) : ah_E G (ah_sL h k a v) b = ah_E G h b :=
  ah_E_same rfl rfl (fun _ => rfl) (fun j => by show ah_u2 (ah_L h) k a v j b = _; unfold ah_u2; rw [if_neg (fun q => hb q.2)]) (fun _ => rfl) rfl rfl rfl
theorem ah_E_sR (G : zG) (h : ah_H) (k a : Nat) (v : Option Nat) {b : Nat} (hb : b ≠ a) : ah_E G (ah_sR h k a v) b = ah_E G h b :=
  ah_E_same rfl rfl (fun _ => rfl) (fun _ => rfl) (fun j => by show ah_u2 (ah_R h) k a v j b = _; unfold ah_u2; rw [if_neg (fun q => hb q.2)]) rfl rfl rfl
theorem ah_E_cI (G : zG) (h : ah_H) (a : Nat) (g : Nat → Int32) {b : Nat} (hb : b ≠ a) : ah_E G (ah_cI h a g) b = ah_E G h b :=
  ah_E_same rfl rfl (fun _ => rfl) (fun _ => rfl) (fun _ => rfl) (va_up_ne _ _ hb) rfl rfl
theorem ah_E_cL (G : zG) (h : ah_H) (a : Nat) (g : Nat → Int64) {b : Nat} (hb : b ≠ a) : ah_E G (ah_cL h a g) b = ah_E G h b :=
  ah_E_same rfl rfl (fun _ => rfl) (fun _ => rfl) (fun _ => rfl) rfl (va_up_ne _ _ hb) rfl
theorem ah_E_cR (G : zG) (h : ah_H) (a : Nat) (g : Nat → Option Nat) {b : Nat} (hb : b ≠ a) : ah_E G (ah_cR h a g) b = ah_E G h b :=
  ah_E_same rfl rfl (fun _ => rfl) (fun _ => rfl) (fun _ => rfl) rfl rfl (va_up_ne _ _ hb)
theorem ah_E_new (G : zG) (h : ah_H) (a t n : Nat) {b : Nat} (hb : b ≠ a) : ah_E G (ah_new h a t n) b = ah_E G h b :=
  ah_E_same (va_up_ne _ _ hb) (va_up_ne _ _ hb) (fun _ => if_neg hb) (fun _ => if_neg hb) (fun _ => if_neg hb) (va_up_ne _ _ hb) (va_up_ne _ _ hb) (va_up_ne _ _ hb)
/-- h' is h but for one field of the object at a -/
def ah_one (h h' : ah_H) (a : Nat) (q : Nat × Nat) (v : Value) : Prop := ah_T h' = ah_T h ∧ ah_f h' a q = v ∧ (∀ q', q' ≠ q → ah_f h' a q' = ah_f h a q') ∧ ∀ (G : zG) (b : Nat), b ≠ a → ah_E G h' b = ah_E G h b
theorem ah_one_I (h : ah_H) (k a : Nat) (v : Int32) : ah_one h (ah_sI h k a v) a (0, k) (.int v) := by
  refine ⟨rfl, ?_, ?_, fun G b hb => ah_E_sI G h k a v hb⟩
  · show Value.int (ah_u2 (ah_I h) k a v k a) = _
    unfold ah_u2
    rw [if_pos ⟨rfl, rfl⟩]
  · rintro ⟨x, y⟩ hq
    unfold ah_f
    by_cases hx : x = 0
    · subst hx
      have hy : y ≠ k := fun z => hq (by rw [z])
      show Value.int (ah_u2 (ah_I h) k a v y a) = _
      unfold ah_u2
      rw [if_neg (fun z => hy z.1)]
      rfl
    · simp only [hx, if_false]
      rfl
theorem ah_one_L (h : ah_H) (k a : Nat) (v : Int64) : ah_one h (ah_sL h k a v) a (1, k) (.long v) := by
  refine ⟨rfl, ?_, ?_, fun G b hb => ah_E_sL G h k a v hb⟩
  · show Value.long (ah_u2 (ah_L h) k a v k a) = _
    unfold ah_u2
    rw [if_pos ⟨rfl, rfl⟩]
  · rintro ⟨x, y⟩ hq
    unfold ah_f
    by_cases hx : x = 1
    · subst hx
      have hy : y ≠ k := fun z => hq (by rw [z])
      show Value.long (ah_u2 (ah_L h) k a v y a) = _
      unfold ah_u2
      rw [if_neg (fun z => hy z.1)]
      rfl
    · simp only [hx, if_false]
      rfl
theorem ah_one_R (h : ah_H) (k a : Nat) (v : Option Nat) : ah_one h (ah_sR h k a v) a (2, k) (va_rf v) := by
  refine ⟨rfl, ?_, ?_, fun G b hb => ah_E_sR G h k a v hb⟩
  · show va_rf (ah_u2 (ah_R h) k a v k a) = _
    unfold ah_u2
    rw [if_pos ⟨rfl, rfl⟩]
  · rintro ⟨x, y⟩ hq
    unfold ah_f
    by_cases hx : x = 2
    · subst hx
      have hy : y ≠ k := fun z => hq (by rw [z])
      show va_rf (ah_u2 (ah_R h) k a v y a) = _
      unfold ah_u2
      rw [if_neg (fun z => hy z.1)]
      rfl
    · simp only [hx, if_false]
      rfl
variable {p : Program} {l : Launch} {e : Env} {R : Room} {s : State} {m : MethodId} {args : Array Value} {below : List Frame} {meth : Method} {c : Code} {H : Heap} {locs : List Loc} {cells slots : Nat} {Q : State → Prop}
variable {cc : ByteArray} {pc : Nat} {ls : Array Slot} {rest : List Value} {G : zG} {h : ah_H} {a : Nat}
theorem ah_W.cell (hW : ah_W G s.heap h H locs) {t : Nat} (ht : ah_T h a = t) (h0 : 0 < t) : ∃ (L : List Nat) (k0 : Nat), (∀ b, ah_T h b ≠ 0 → b ∈ L) ∧ va_P G.1 ah_cl (va_pl L (ah_E G h)) H ∧ va_D (fun q => G.2.2 ≤ q) (va_pl L (ah_E G h)) ∧ a ∈ L ∧ (va_pl L (ah_E G h))[k0]? = some (a, ah_E G h a) := by
  obtain ⟨-, ⟨L, hL, hP, hD⟩, -⟩ := hW
  have ha := hL a (by omega)
  obtain ⟨k0, hk0⟩ := va_pl_get (X := []) (f := ah_E G h) ha
  exact ⟨L, k0, hL, hP, hD, ha, hk0⟩
theorem hb_get (hexec : p.tables.exec = Jvm.exec) (hb : c.code = cc) {own ref C : String} {T : u_T} {N ci index : Nat} {Ts : List Cond} (hts : ∀ w ∈ Ts, w.before args s = true) (hin : ∀ w ∈ u_ws C T N, w ∈ Ts) (hown : s.vm.findClass own = some m.cls) (hK : ah_K G s) (hW : ah_W G s.heap h H locs) (ht : ah_T h a = ci + 1) (hc : ah_cl[ci]? = some (C, T, N)) (hci : ci < 99) (k : Nat) (hk : k < N) (hlink : (Cond.fieldLink own index ref (T k).2.1 (T k).2.2.1).before args s = true) (hsame : ∀ x, s.fieldFound? (T k).1 (T k).2.1 (T k).2.2.1 = some x → s.fieldFound? ref (T k).2.1 (T k).2.2.1 = some x) {q : Nat × Nat} (hq : (ah_tab.getD ci [])[k]? = some q) {v : Value} (hv : ah_f h a q = v) (hdg : decode cc pc = .ok (.getfield index, 3)) (kk : W p l e R s m args below meth c H locs cells slots Q (F0 m (pc + 3) ls (v :: rest))) : W p l e R s m args below meth c H locs cells slots Q (F0 m pc ls (.ref a :: rest)) := by
  obtain ⟨L, k0, hL, hP, hD, ha, hk0⟩ := hW.cell ht (by omega)
  rw [ah_E_obj ht hci] at hk0
  exact va_get hexec hb hts hin hown hK hP k0 hk0 hc k hk hlink hsame (by rw [List.getElem?_map, hq]; exact congrArg some hv) hdg kk
theorem hb_put (hexec : p.tables.exec = Jvm.exec) (hb : c.code = cc) {own ref C : String} {T : u_T} {N ci index : Nat} {Ts : List Cond} (hts : ∀ w ∈ Ts, w.before args s = true) (hin : ∀ w ∈ u_ws C T N, w ∈ Ts) (ty0 : Nat → FieldType) (hty : ∀ k, k < N → parseFieldDescriptor (T k).2.2.1 = some (ty0 k)) (hnm : ∀ a, a < N → ∀ b, b < N → a ≠ b → (T a).2.1 ≠ (T b).2.1) (hown : s.vm.findClass own = some m.cls) (hK : ah_K G s) (hW : ah_W G s.heap h H locs) (ht : ah_T h a = ci + 1) (hc : ah_cl[ci]? = some (C, T, N)) (hci : ci < 99) (k : Nat) (hk : k < N) (hlink : (Cond.fieldLink own index ref (T k).2.1 (T k).2.2.1).before args s = true) (hsame : ∀ x, s.fieldFound? (T k).1 (T k).2.1 (T k).2.2.1 = some x → s.fieldFound? ref (T k).2.1 (T k).2.2.1 = some x) (hfin : (T k).2.2.2 = false) {ty : FieldType} (hd : parseFieldDescriptor (T k).2.2.1 = some ty) {q : Nat × Nat} (hq : (ah_tab.getD ci [])[k]? = some q) (hnd : (ah_tab.getD ci []).Nodup) {v : Value} (hn : narrow ty v = v) (hfit : fits ty v = true) {h' : ah_H} (h1 : ah_one h h' a q v) (hdg : decode cc pc = .ok (.putfield index, 3)) (kk : ∀ (H1 : Heap) (locs1 : List Loc) (hz : ah_H), hz = h' → ah_W G s.heap hz H1 locs1 → W p l e R s m args below meth c H1 locs1 cells slots Q (F0 m (pc + 3) ls rest)) : W p l e R s m args below meth c H locs cells slots Q (F0 m pc ls (v :: .ref a :: rest)) := by
  obtain ⟨L, k0, hL, hP, hD, ha, hk0⟩ := hW.cell ht (by omega)
  have hk1 := hk0
  rw [ah_E_obj ht hci] at hk1
  have hl := (List.getElem?_eq_some_iff.mp hq).1
  refine va_put hexec hb hts hin ty0 hty hnm hown hK hP hD hW.2.2 k0 hk1 hc k hk hlink hsame hfin hd hn hfit (by rw [List.length_map]; exact hl) hdg (fun H1 locs1 hP1 hD1 hS1 => kk H1 locs1 _ rfl ?_)
  refine ah_put hW.1 hL (fun b hb => by rw [← h1.1]; exact hb) hD ha hk0 ?_ hP1 hD1 hS1
  refine ah_up ?_ (h1.2.2.2 G)
  rw [ah_E_obj (ci := ci) (by rw [h1.1]; exact ht) hci, ah_fset hq hnd h1.2.1 h1.2.2.1]
theorem hb_putF (hexec : p.tables.exec = Jvm.exec) (hb : c.code = cc) {own ref C : String} {T : u_T} {N ci index : Nat} {Ts : List Cond} (hts : ∀ w ∈ Ts, w.before args s = true) (hin : ∀ w ∈ u_ws C T N, w ∈ Ts) (ty0 : Nat → FieldType) (hty : ∀ k, k < N → parseFieldDescriptor (T k).2.2.1 = some (ty0 k)) (hnm : ∀ a, a < N → ∀ b, b < N → a ≠ b → (T a).2.1 ≠ (T b).2.1) (hown : s.vm.findClass own = some m.cls) (hK : ah_K G s) (hW : ah_W G s.heap h H locs) (ht : ah_T h a = ci + 1) (hc : ah_cl[ci]? = some (C, T, N)) (hci : ci < 99) (k : Nat) (hk : k < N) (hlink : (Cond.fieldLink own index ref (T k).2.1 (T k).2.2.1).before args s = true) (hsame : ∀ x, s.fieldFound? (T k).1 (T k).2.1 (T k).2.2.1 = some x → s.fieldFound? ref (T k).2.1 (T k).2.2.1 = some x) (hfin : (T k).2.2.2 = true) (hin2 : meth.name = "<init>") (hdecl : (T k).1 = own) {ty : FieldType} (hd : parseFieldDescriptor (T k).2.2.1 = some ty) {q : Nat × Nat} (hq : (ah_tab.getD ci [])[k]? = some q) (hnd : (ah_tab.getD ci []).Nodup) {v : Value} (hn : narrow ty v = v) (hfit : fits ty v = true) {h' : ah_H} (h1 : ah_one h h' a q v) (hdg : decode cc pc = .ok (.putfield index, 3)) (kk : ∀ (H1 : Heap) (locs1 : List Loc) (hz : ah_H), hz = h' → ah_W G s.heap hz H1 locs1 → W p l e R s m args below meth c H1 locs1 cells slots Q (F0 m (pc + 3) ls rest)) : W p l e R s m args below meth c H locs cells slots Q (F0 m pc ls (v :: .ref a :: rest)) := by
  obtain ⟨L, k0, hL, hP, hD, ha, hk0⟩ := hW.cell ht (by omega)
  have hk1 := hk0
  rw [ah_E_obj ht hci] at hk1
  have hl := (List.getElem?_eq_some_iff.mp hq).1
  refine va_putF hexec hb hts hin ty0 hty hnm hown hK hP hD hW.2.2 k0 hk1 hc k hk hlink hsame hfin hin2 hdecl hd hn hfit (by rw [List.length_map]; exact hl) hdg (fun H1 locs1 hP1 hD1 hS1 => kk H1 locs1 _ rfl ?_)
  refine ah_put hW.1 hL (fun b hb => by rw [← h1.1]; exact hb) hD ha hk0 ?_ hP1 hD1 hS1
  refine ah_up ?_ (h1.2.2.2 G)
  rw [ah_E_obj (ci := ci) (by rw [h1.1]; exact ht) hci, ah_fset hq hnd h1.2.1 h1.2.2.1]
/-! arrays -/
theorem hb_lald (hexec : p.tables.exec = Jvm.exec) (hb : c.code = cc) (hK : ah_K G s) (hW : ah_W G s.heap h H locs) {t : Nat} (ht : ah_T h a = t) (h1 : 110 ≤ t) (h2 : t < 120) (t0 : Nat) (hy : ah_tys[t0]? = some (t, .long)) {i : Int32} (hin : vp_in i (ah_N h a)) (hdg : decode cc pc = .ok (.laload, 1)) (kk : W p l e R s m args below meth c H locs cells slots Q (F0 m (pc + 1) ls (.long (ah_bL h a i.toNatClampNeg) :: rest))) : W p l e R s m args below meth c H locs cells slots Q (F0 m pc ls (.int i :: .ref a :: rest)) := by
  obtain ⟨L, k0, hL, hP, hD, ha, hk0⟩ := hW.cell ht (by omega)
  rw [ah_E_long ht h1 h2] at hk0
  exact va_lald hexec hb hK hP k0 t0 hk0 (by rw [List.getElem?_map, hy]; rfl) hin hdg kk
theorem hb_last (hexec : p.tables.exec = Jvm.exec) (hb : c.code = cc) (hK : ah_K G s) (hW : ah_W G s.heap h H locs) {t : Nat} (ht : ah_T h a = t) (h1 : 110 ≤ t) (h2 : t < 120) (t0 : Nat) (hy : ah_tys[t0]? = some (t, .long)) {i : Int32} {x : Int64} (hin : vp_in i (ah_N h a)) (hdg : decode cc pc = .ok (.lastore, 1)) (kk : ∀ (H1 : Heap) (locs1 : List Loc) (hz : ah_H), hz = ah_cL h a (vp_updL (ah_bL h a) i.toNatClampNeg x) → ah_W G s.heap hz H1 locs1 → W p l e R s m args below meth c H1 locs1 cells slots Q (F0 m (pc + 1) ls rest)) : W p l e R s m args below meth c H locs cells slots Q (F0 m pc ls (.long x :: .int i :: .ref a :: rest)) := by
  obtain ⟨L, k0, hL, hP, hD, ha, hk0⟩ := hW.cell ht (by omega)
  have hk1 := hk0
  rw [ah_E_long ht h1 h2] at hk1
  refine va_last hexec hb hK hP hD hW.2.2 k0 t0 hk1 (by rw [List.getElem?_map, hy]; rfl) hin hdg (fun H1 locs1 hP1 hD1 hS1 => kk H1 locs1 _ rfl ?_)
  refine ah_put hW.1 hL (fun b hb => hb) hD ha hk0 (ah_up ?_ (fun b hb => ah_E_cL G h a _ hb)) hP1 hD1 hS1
  rw [ah_E_long (t := t) (by exact ht) h1 h2]
  show Sum.inl (G.2.1 t, ah_N h a, Sum.inr (Sum.inl (va_up (ah_bL h) a _ a))) = _
  rw [va_up_self]
theorem hb_iald (hexec : p.tables.exec = Jvm.exec) (hb : c.code = cc) (hK : ah_K G s) (hW : ah_W G s.heap h H locs) {t : Nat} (ht : ah_T h a = t) (h1 : 100 ≤ t) (h2 : t < 110) (t0 : Nat) (hy : ah_tys[t0]? = some (t, .int)) {i : Int32} (hin : vp_in i (ah_N h a)) (hdg : decode cc pc = .ok (.iaload, 1)) (kk : W p l e R s m args below meth c H locs cells slots Q (F0 m (pc + 1) ls (.int (ah_bI h a i.toNatClampNeg) :: rest))) : W p l e R s m args below meth c H locs cells slots Q (F0 m pc ls (.int i :: .ref a :: rest)) := by
  obtain ⟨L, k0, hL, hP, hD, ha, hk0⟩ := hW.cell ht (by omega)
  rw [ah_E_int ht h1 h2] at hk0
  exact va_iald hexec hb hK hP k0 t0 hk0 (by rw [List.getElem?_map, hy]; rfl) hin hdg kk
theorem hb_bald (hexec : p.tables.exec = Jvm.exec) (hb : c.code = cc) (hK : ah_K G s) (hW : ah_W G s.heap h H locs) {t : Nat} (ht : ah_T h a = t) (h1 : 100 ≤ t) (h2 : t < 110) (t0 : Nat) (hy : ah_tys[t0]? = some (t, .byte)) {i : Int32} (hin : vp_in i (ah_N h a)) (hdg : decode cc pc = .ok (.baload, 1)) (kk : W p l e R s m args below meth c H locs cells slots Q (F0 m (pc + 1) ls (.int (ah_bI h a i.toNatClampNeg) :: rest))) : W p l e R s m args below meth c H locs cells slots Q (F0 m pc ls (.int i :: .ref a :: rest)) := by
  obtain ⟨L, k0, hL, hP, hD, ha, hk0⟩ := hW.cell ht (by omega)
  rw [ah_E_int ht h1 h2] at hk0
  exact va_bald hexec hb hK hP k0 t0 hk0 (by rw [List.getElem?_map, hy]; rfl) hin hdg kk
theorem hb_iast (hexec : p.tables.exec = Jvm.exec) (hb : c.code = cc) (hK : ah_K G s) (hW : ah_W G s.heap h H locs) {t : Nat} (ht : ah_T h a = t) (h1 : 100 ≤ t) (h2 : t < 110) (t0 : Nat) (hy : ah_tys[t0]? = some (t, .int)) {i : Int32} {x : Int32} (hin : vp_in i (ah_N h a)) (hdg : decode cc pc = .ok (.iastore, 1)) (kk : ∀ (H1 : Heap) (locs1 : List Loc) (hz : ah_H), hz = ah_cI h a (upd (ah_bI h a) i.toNatClampNeg x) → ah_W G s.heap hz H1 locs1 → W p l e R s m args below meth c H1 locs1 cells slots Q (F0 m (pc + 1) ls rest)) : W p l e R s m args below meth c H locs cells slots Q (F0 m pc ls (.int x :: .int i :: .ref a :: rest)) := by
  obtain ⟨L, k0, hL, hP, hD, ha, hk0⟩ := hW.cell ht (by omega)
  have hk1 := hk0
  rw [ah_E_int ht h1 h2] at hk1
  refine va_iast hexec hb hK hP hD hW.2.2 k0 t0 hk1 (by rw [List.getElem?_map, hy]; rfl) hin hdg (fun H1 locs1 hP1 hD1 hS1 => kk H1 locs1 _ rfl ?_)
  refine ah_put hW.1 hL (fun b hb => hb) hD ha hk0 (ah_up ?_ (fun b hb => ah_E_cI G h a _ hb)) hP1 hD1 hS1
  rw [ah_E_int (t := t) (by exact ht) h1 h2]
  show Sum.inl (G.2.1 t, ah_N h a, Sum.inl (va_up (ah_bI h) a _ a)) = _
  rw [va_up_self]
theorem hb_bast (hexec : p.tables.exec = Jvm.exec) (hb : c.code = cc) (hK : ah_K G s) (hW : ah_W G s.heap h H locs) {t : Nat} (ht : ah_T h a = t) (h1 : 100 ≤ t) (h2 : t < 110) (t0 : Nat) (hy : ah_tys[t0]? = some (t, .byte)) {i : Int32} {x : Int32} (hin : vp_in i (ah_N h a)) (hdg : decode cc pc = .ok (.bastore, 1)) (kk : ∀ (H1 : Heap) (locs1 : List Loc) (hz : ah_H), hz = ah_cI h a (upd (ah_bI h a) i.toNatClampNeg (vp_nar .byte x)) → ah_W G s.heap hz H1 locs1 → W p l e R s m args below meth c H1 locs1 cells slots Q (F0 m (pc + 1) ls rest)) : W p l e R s m args below meth c H locs cells slots Q (F0 m pc ls (.int x :: .int i :: .ref a :: rest)) := by
  obtain ⟨L, k0, hL, hP, hD, ha, hk0⟩ := hW.cell ht (by omega)
  have hk1 := hk0
  rw [ah_E_int ht h1 h2] at hk1
  refine va_bast hexec hb hK hP hD hW.2.2 k0 t0 hk1 (by rw [List.getElem?_map, hy]; rfl) hin hdg (fun H1 locs1 hP1 hD1 hS1 => kk H1 locs1 _ rfl ?_)
  refine ah_put hW.1 hL (fun b hb => hb) hD ha hk0 (ah_up ?_ (fun b hb => ah_E_cI G h a _ hb)) hP1 hD1 hS1
  rw [ah_E_int (t := t) (by exact ht) h1 h2]
  show Sum.inl (G.2.1 t, ah_N h a, Sum.inl (va_up (ah_bI h) a _ a)) = _
  rw [va_up_self]
theorem hb_aldq (hexec : p.tables.exec = Jvm.exec) (hb : c.code = cc) (hK : ah_K G s) (hW : ah_W G s.heap h H locs) {t : Nat} (ht : ah_T h a = t) (h1 : 120 ≤ t) (t0 : Nat) {C : String} (hy : ah_tys[t0]? = some (t, .object C)) {i : Int32} (hin : vp_in i (ah_N h a)) {b : Nat} (hv : ah_bR h a i.toNatClampNeg = some b) (hdg : decode cc pc = .ok (.aaload, 1)) (kk : W p l e R s m args below meth c H locs cells slots Q (F0 m (pc + 1) ls (.ref b :: rest))) : W p l e R s m args below meth c H locs cells slots Q (F0 m pc ls (.int i :: .ref a :: rest)) := by
  obtain ⟨L, k0, hL, hP, hD, ha, hk0⟩ := hW.cell ht (by omega)
  rw [ah_E_ref ht h1] at hk0
  refine va_aldq hexec hb hK hP k0 t0 hk0 (by rw [List.getElem?_map, hy]; rfl) hin hdg ?_
  rw [hv]
  exact kk
theorem hb_astq (hexec : p.tables.exec = Jvm.exec) (hb : c.code = cc) (hK : ah_K G s) (hW : ah_W G s.heap h H locs) {t : Nat} (ht : ah_T h a = t) (h1 : 120 ≤ t) (t0 ci : Nat) {r : vw_C} (hy : ah_tys[t0]? = some (t, .object r.1)) {v : Nat} (hv : ah_T h v = ci + 1) (hci : ci < 99) (hc : ah_cl[ci]? = some r) {i : Int32} (hin : vp_in i (ah_N h a)) (hdg : decode cc pc = .ok (.aastore, 1)) (kk : ∀ (H1 : Heap) (locs1 : List Loc) (hz : ah_H), hz = ah_cR h a (va_up (ah_bR h a) i.toNatClampNeg (some v)) → ah_W G s.heap hz H1 locs1 → W p l e R s m args below meth c H1 locs1 cells slots Q (F0 m (pc + 1) ls rest)) : W p l e R s m args below meth c H locs cells slots Q (F0 m pc ls (.ref v :: .int i :: .ref a :: rest)) := by
  obtain ⟨L, k0, hL, hP, hD, ha, hk0⟩ := hW.cell ht (by omega)
  have hk1 := hk0
  rw [ah_E_ref ht h1] at hk1
  obtain ⟨kv, hkv⟩ := va_pl_get (X := []) (f := ah_E G h) (hL v (by omega))
  rw [ah_E_obj hv hci] at hkv
  refine va_astq hexec hb hK hP hD hW.2.2 k0 t0 kv ci hk1 (by rw [List.getElem?_map, hy]; rfl) hkv hc hin hdg (fun H1 locs1 hP1 hD1 hS1 => kk H1 locs1 _ rfl ?_)
  refine ah_put hW.1 hL (fun b hb => hb) hD ha hk0 (ah_up ?_ (fun b hb => ah_E_cR G h a _ hb)) hP1 hD1 hS1
  rw [ah_E_ref (t := t) (by exact ht) h1]
  show Sum.inl (G.2.1 t, ah_N h a, Sum.inr (Sum.inr (Sum.inr (Sum.inr (va_up (ah_bR h) a _ a))))) = _
  rw [va_up_self]
theorem hb_alenI (hexec : p.tables.exec = Jvm.exec) (hb : c.code = cc) (hK : ah_K G s) (hW : ah_W G s.heap h H locs) {t : Nat} (ht : ah_T h a = t) (h1 : 100 ≤ t) (t0 : Nat) {ty : FieldType} (hy : ah_tys[t0]? = some (t, ty)) (hdg : decode cc pc = .ok (.arraylength, 1)) (kk : W p l e R s m args below meth c H locs cells slots Q (F0 m (pc + 1) ls (.int (nI (ah_N h a)) :: rest))) : W p l e R s m args below meth c H locs cells slots Q (F0 m pc ls (.ref a :: rest)) := by
  obtain ⟨L, k0, hL, hP, hD, ha, hk0⟩ := hW.cell ht (by omega)
  have hy' : (ah_tys.map (fun q => (G.2.1 q.1, q.2)))[t0]? = some (G.2.1 t, ty) := by rw [List.getElem?_map, hy]; rfl
  by_cases h2 : t < 110
  · rw [ah_E_int ht h1 h2] at hk0
    exact va_alen hexec hb hK hP k0 t0 hk0 hy' rfl hdg kk
  · by_cases h3 : t < 120
    · rw [ah_E_long ht (by omega) h3] at hk0
      exact va_alen hexec hb hK hP k0 t0 hk0 hy' rfl hdg kk
    · rw [ah_E_ref ht (by omega)] at hk0
      exact va_alen hexec hb hK hP k0 t0 hk0 hy' rfl hdg kk
end HB2
