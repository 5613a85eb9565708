section HB4
variable {p : Program} {l : Launch} {e : Env} {R : Room} {s : State} {m : MethodId} {args : Array Value} {below : List Frame} {meth : Method} {c : Code} {H : Heap} {locs : List Loc} {cells slots : Nat} {Q : State → Prop}
variable {cc : ByteArray} {pc : Nat} {ls : Array Slot} {rest : List Value} {G : zG} {h : ah_H} {a : Nat}
theorem lg_0 (x y : Int64) : (lg_cmp x y = 0) ↔ x = y := by
  unfold lg_cmp
  by_cases h1 : x > y
  · simp only [h1, if_true]
    constructor
    · intro h; exact absurd h (by decide)
    · intro h; subst h; exact absurd h1 (by simp)
  · by_cases h2 : x = y
    · simp [h1, h2]
    · simp only [h1, h2, if_false]
      constructor
      · intro h; exact absurd h (by decide)
      · intro h; exact absurd h (by simp)
theorem lg_lt (x y : Int64) : (lg_cmp x y < 0) ↔ x < y := by
  have h := lg_cmp_ge x y
  constructor
  · intro h1
    exact Int64.not_le.mp (fun h2 => absurd (h.mpr h2) (Int32.not_le.mpr h1))
  · intro h1
    exact Int32.not_le.mp (fun h2 => absurd (h.mp h2) (Int64.not_le.mpr h1))
theorem lg_le (x y : Int64) : (lg_cmp x y ≤ 0) ↔ x ≤ y := by
  unfold lg_cmp
  by_cases h1 : x > y
  · simp only [h1, if_true]
    constructor
    · intro h; exact absurd h (by decide)
    · intro h; exact absurd h (Int64.not_le.mpr h1)
  · have h3 : x ≤ y := Int64.not_lt.mp h1
    by_cases h2 : x = y
    · simp [h1, h2]
    · simp only [h1, h2, if_false]
      exact ⟨fun _ => h3, fun _ => by decide⟩
theorem lg_gt (x y : Int64) : (0 < lg_cmp x y) ↔ y < x := by
  have h := lg_le x y
  constructor
  · intro h1
    exact Int64.not_le.mp (fun h2 => absurd (h.mpr h2) (Int32.not_le.mpr h1))
  · intro h1
    exact Int32.not_le.mp (fun h2 => absurd (h.mp h2) (Int64.not_le.mpr h1))
theorem hb_lcmp_eq (hexec : p.tables.exec = Jvm.exec) (hb : c.code = cc) {x y : Int64} {off : Int} {tgt : Nat} (hd0 : decode cc pc = .ok (.lcmp, 1)) (hdg : decode cc (pc + 1) = .ok (.ifCond .eq off, 3)) (ht : ((pc + 1 : Nat) : Int) + off = (tgt : Int)) (kt : x = y → W p l e R s m args below meth c H locs cells slots Q (F0 m tgt ls rest)) (kf : ¬ x = y → W p l e R s m args below meth c H locs cells slots Q (F0 m (pc + 4) ls rest)) : W p l e R s m args below meth c H locs cells slots Q (F0 m pc ls (.long y :: .long x :: rest)) :=
  W.lcmp hexec hb hd0 (lv_if_eq hexec hb hdg ht (fun h => kt ((lg_0 x y).mp h)) (fun h => kf (fun h2 => h ((lg_0 x y).mpr h2))))
theorem hb_lcmp_ne (hexec : p.tables.exec = Jvm.exec) (hb : c.code = cc) {x y : Int64} {off : Int} {tgt : Nat} (hd0 : decode cc pc = .ok (.lcmp, 1)) (hdg : decode cc (pc + 1) = .ok (.ifCond .ne off, 3)) (ht : ((pc + 1 : Nat) : Int) + off = (tgt : Int)) (kt : ¬ x = y → W p l e R s m args below meth c H locs cells slots Q (F0 m tgt ls rest)) (kf : x = y → W p l e R s m args below meth c H locs cells slots Q (F0 m (pc + 4) ls rest)) : W p l e R s m args below meth c H locs cells slots Q (F0 m pc ls (.long y :: .long x :: rest)) :=
  W.lcmp hexec hb hd0 (lv_if_ne hexec hb hdg ht (fun h => kt (fun h2 => h ((lg_0 x y).mpr h2))) (fun h => kf ((lg_0 x y).mp h)))
theorem hb_lcmp_lt (hexec : p.tables.exec = Jvm.exec) (hb : c.code = cc) {x y : Int64} {off : Int} {tgt : Nat} (hd0 : decode cc pc = .ok (.lcmp, 1)) (hdg : decode cc (pc + 1) = .ok (.ifCond .lt off, 3)) (ht : ((pc + 1 : Nat) : Int) + off = (tgt : Int)) (kt : x < y → W p l e R s m args below meth c H locs cells slots Q (F0 m tgt ls rest)) (kf : ¬ x < y → W p l e R s m args below meth c H locs cells slots Q (F0 m (pc + 4) ls rest)) : W p l e R s m args below meth c H locs cells slots Q (F0 m pc ls (.long y :: .long x :: rest)) :=
  W.lcmp hexec hb hd0 (lv_if_lt hexec hb hdg ht (fun h => kt ((lg_lt x y).mp h)) (fun h => kf (fun h2 => h ((lg_lt x y).mpr h2))))
theorem hb_lcmp_ge (hexec : p.tables.exec = Jvm.exec) (hb : c.code = cc) {x y : Int64} {off : Int} {tgt : Nat} (hd0 : decode cc pc = .ok (.lcmp, 1)) (hdg : decode cc (pc + 1) = .ok (.ifCond .ge off, 3)) (ht : ((pc + 1 : Nat) : Int) + off = (tgt : Int)) (kt : y ≤ x → W p l e R s m args below meth c H locs cells slots Q (F0 m tgt ls rest)) (kf : ¬ y ≤ x → W p l e R s m args below meth c H locs cells slots Q (F0 m (pc + 4) ls rest)) : W p l e R s m args below meth c H locs cells slots Q (F0 m pc ls (.long y :: .long x :: rest)) :=
  W.lcmp hexec hb hd0 (lv_if_ge hexec hb hdg ht (fun h => kt ((lg_cmp_ge x y).mp h)) (fun h => kf (fun h2 => h ((lg_cmp_ge x y).mpr h2))))
theorem hb_lcmp_gt (hexec : p.tables.exec = Jvm.exec) (hb : c.code = cc) {x y : Int64} {off : Int} {tgt : Nat} (hd0 : decode cc pc = .ok (.lcmp, 1)) (hdg : decode cc (pc + 1) = .ok (.ifCond .gt off, 3)) (ht : ((pc + 1 : Nat) : Int) + off = (tgt : Int)) (kt : y < x → W p l e R s m args below meth c H locs cells slots Q (F0 m tgt ls rest)) (kf : ¬ y < x → W p l e R s m args below meth c H locs cells slots Q (F0 m (pc + 4) ls rest)) : W p l e R s m args below meth c H locs cells slots Q (F0 m pc ls (.long y :: .long x :: rest)) :=
  W.lcmp hexec hb hd0 (lv_if_gt hexec hb hdg ht (fun h => kt ((lg_gt x y).mp h)) (fun h => kf (fun h2 => h ((lg_gt x y).mpr h2))))
theorem hb_lcmp_le (hexec : p.tables.exec = Jvm.exec) (hb : c.code = cc) {x y : Int64} {off : Int} {tgt : Nat} (hd0 : decode cc pc = .ok (.lcmp, 1)) (hdg : decode cc (pc + 1) = .ok (.ifCond .le off, 3)) (ht : ((pc + 1 : Nat) : Int) + off = (tgt : Int)) (kt : x ≤ y → W p l e R s m args below meth c H locs cells slots Q (F0 m tgt ls rest)) (kf : ¬ x ≤ y → W p l e R s m args below meth c H locs cells slots Q (F0 m (pc + 4) ls rest)) : W p l e R s m args below meth c H locs cells slots Q (F0 m pc ls (.long y :: .long x :: rest)) :=
  W.lcmp hexec hb hd0 (lv_if_le hexec hb hdg ht (fun h => kt ((lg_le x y).mp h)) (fun h => kf (fun h2 => h ((lg_le x y).mpr h2))))
theorem hb_copyl (hexec : p.tables.exec = Jvm.exec) (hb : c.code = cc) (hml : c.maxLocals = ls.size) {own : String} {index : Nat} (hown : s.vm.findClass own = some m.cls) (hlink : (Cond.methodLink own index arraycopyName).before args s = true) (hnat : (Cond.native arraycopyName).before args s = true) (hstat : (Cond.static arraycopyName).before args s = true) (hini : (Cond.initialized "java/lang/System").before args s = true) (hK : ah_K G s) (hW : ah_W G s.heap h H locs) {b : Nat} (hta : ah_T h a = 110) (htb : ah_T h b = 110) {sp dp n : Int32} (h1 : ¬ sp < 0) (h2 : ¬ dp < 0) (h3 : ¬ n < 0) (h4 : sp.toNatClampNeg + n.toNatClampNeg ≤ ah_N h b) (h5 : dp.toNatClampNeg + n.toNatClampNeg ≤ ah_N h a) (hframes : 1 ≤ R.frames) (hlocals : (rest.map fun v => v.category).sum + (nativeFrameWords "java/lang/System" "arraycopy" 5 + 11) ≤ R.locals) (hdg : decode cc pc = .ok (.invokestatic index, 3)) (kk : ∀ (H1 : Heap) (locs1 : List Loc) (hz : ah_H), hz = ah_cL h a (va_cpy (ah_bL h b) (ah_bL h a) sp.toNatClampNeg dp.toNatClampNeg n.toNatClampNeg) → ah_W G s.heap hz H1 locs1 → W p l e R s m args below meth c H1 locs1 cells slots Q (F0 m (pc + 3) ls rest)) : W p l e R s m args below meth c H locs cells slots Q (F0 m pc ls (.int n :: .int dp :: .ref a :: .int sp :: .ref b :: rest)) := by
  obtain ⟨L, k0, hL, hP, hD, ha, hk0⟩ := hW.cell hta (by omega)
  have hk1 := hk0
  rw [ah_E_long hta (by omega) (by omega)] at hk1
  obtain ⟨kb, hkb⟩ := va_pl_get (X := []) (f := ah_E G h) (hL b (by omega))
  rw [ah_E_long htb (by omega) (by omega)] at hkb
  refine va_copyl (ty := .long) hexec hb hml hown hlink hnat hstat hini hK hP hD hW.2.2 kb k0 2 2 hkb hk1 rfl rfl rfl h1 h2 h3 h4 h5 (fun _ _ => rfl) hframes hlocals hdg (fun H1 locs1 hP1 hD1 hS1 => kk H1 locs1 _ rfl ?_)
  refine ah_put hW.1 hL (fun b hb => hb) hD ha hk0 (ah_up ?_ (fun b hb => ah_E_cL G h a _ hb)) hP1 hD1 hS1
  rw [ah_E_long (t := 110) (by exact hta) (by omega) (by omega)]
  show Sum.inl (G.2.1 110, ah_N h a, Sum.inr (Sum.inl (va_up (ah_bL h) a _ a))) = _
  rw [va_up_self]
/-- what a byte is -/
def ah_by (x : Int32) : Prop := x.toInt8.toInt32 = x
theorem hb_copyb (hexec : p.tables.exec = Jvm.exec) (hb : c.code = cc) (hml : c.maxLocals = ls.size) {own : String} {index : Nat} (hown : s.vm.findClass own = some m.cls) (hlink : (Cond.methodLink own index arraycopyName).before args s = true) (hnat : (Cond.native arraycopyName).before args s = true) (hstat : (Cond.static arraycopyName).before args s = true) (hini : (Cond.initialized "java/lang/System").before args s = true) (hK : ah_K G s) (hW : ah_W G s.heap h H locs) {b : Nat} (hta : ah_T h a = 101) (htb : ah_T h b = 101) {sp dp n : Int32} (h1 : ¬ sp < 0) (h2 : ¬ dp < 0) (h3 : ¬ n < 0) (h4 : sp.toNatClampNeg + n.toNatClampNeg ≤ ah_N h b) (h5 : dp.toNatClampNeg + n.toNatClampNeg ≤ ah_N h a) (hby : ∀ i, i < n.toNatClampNeg → ah_by (ah_bI h b (sp.toNatClampNeg + i))) (hframes : 1 ≤ R.frames) (hlocals : (rest.map fun v => v.category).sum + (nativeFrameWords "java/lang/System" "arraycopy" 5 + 11) ≤ R.locals) (hdg : decode cc pc = .ok (.invokestatic index, 3)) (kk : ∀ (H1 : Heap) (locs1 : List Loc) (hz : ah_H), hz = ah_cI h a (va_cpy (ah_bI h b) (ah_bI h a) sp.toNatClampNeg dp.toNatClampNeg n.toNatClampNeg) → ah_W G s.heap hz H1 locs1 → W p l e R s m args below meth c H1 locs1 cells slots Q (F0 m (pc + 3) ls rest)) : W p l e R s m args below meth c H locs cells slots Q (F0 m pc ls (.int n :: .int dp :: .ref a :: .int sp :: .ref b :: rest)) := by
  obtain ⟨L, k0, hL, hP, hD, ha, hk0⟩ := hW.cell hta (by omega)
  have hk1 := hk0
  rw [ah_E_int hta (by omega) (by omega)] at hk1
  obtain ⟨kb, hkb⟩ := va_pl_get (X := []) (f := ah_E G h) (hL b (by omega))
  rw [ah_E_int htb (by omega) (by omega)] at hkb
  refine va_copyi (ty := .byte) hexec hb hml hown hlink hnat hstat hini hK hP hD hW.2.2 kb k0 1 1 hkb hk1 rfl rfl rfl h1 h2 h3 h4 h5 (fun i hi => by have := hby i hi; unfold ah_by at this; rw [← this]; exact pk_fb _) hframes hlocals hdg (fun H1 locs1 hP1 hD1 hS1 => kk H1 locs1 _ rfl ?_)
  refine ah_put hW.1 hL (fun b hb => hb) hD ha hk0 (ah_up ?_ (fun b hb => ah_E_cI G h a _ hb)) hP1 hD1 hS1
  rw [ah_E_int (t := 101) (by exact hta) (by omega) (by omega)]
  show Sum.inl (G.2.1 101, ah_N h a, Sum.inl (va_up (ah_bI h) a _ a)) = _
  rw [va_up_self]
end HB4
