theorem d_BD_out_0 : decode b_BD_out 0 = .ok (.iload_n 1, 1) := by decide +kernel
theorem d_BD_out_1 : decode b_BD_out 1 = .ok (.ifCond .lt 11, 3) := by decide +kernel
theorem d_BD_out_4 : decode b_BD_out 4 = .ok (.iload_n 1, 1) := by decide +kernel
theorem d_BD_out_5 : decode b_BD_out 5 = .ok (.aload_n 0, 1) := by decide +kernel
theorem d_BD_out_6 : decode b_BD_out 6 = .ok (.getfield 48, 3) := by decide +kernel
theorem d_BD_out_9 : decode b_BD_out 9 = .ok (.if_icmp .lt 13, 3) := by decide +kernel
theorem d_BD_out_12 : decode b_BD_out 12 = .ok (.new 177, 3) := by decide +kernel
theorem d_BD_out_15 : decode b_BD_out 15 = .ok (.dup, 1) := by decide +kernel
theorem d_BD_out_16 : decode b_BD_out 16 = .ok (.ldc 179, 2) := by decide +kernel
theorem d_BD_out_18 : decode b_BD_out 18 = .ok (.invokespecial 181, 3) := by decide +kernel
theorem d_BD_out_21 : decode b_BD_out 21 = .ok (.athrow, 1) := by decide +kernel
theorem d_BD_out_22 : decode b_BD_out 22 = .ok (.bipush 8, 2) := by decide +kernel
theorem d_BD_out_24 : decode b_BD_out 24 = .ok (.aload_n 0, 1) := by decide +kernel
theorem d_BD_out_25 : decode b_BD_out 25 = .ok (.getfield 48, 3) := by decide +kernel
theorem d_BD_out_28 : decode b_BD_out 28 = .ok (.iload_n 1, 1) := by decide +kernel
theorem d_BD_out_29 : decode b_BD_out 29 = .ok (.isub, 1) := by decide +kernel
theorem d_BD_out_30 : decode b_BD_out 30 = .ok (.invokestatic 182, 3) := by decide +kernel
theorem d_BD_out_33 : decode b_BD_out 33 = .ok (.istore_n 2, 1) := by decide +kernel
theorem d_BD_out_34 : decode b_BD_out 34 = .ok (.lconst 0, 1) := by decide +kernel
theorem d_BD_out_35 : decode b_BD_out 35 = .ok (.lstore_n 3, 1) := by decide +kernel
theorem d_BD_out_36 : decode b_BD_out 36 = .ok (.iconst 0, 1) := by decide +kernel
theorem d_BD_out_37 : decode b_BD_out 37 = .ok (.istore 5, 2) := by decide +kernel
theorem d_BD_out_39 : decode b_BD_out 39 = .ok (.iload 5, 2) := by decide +kernel
theorem d_BD_out_41 : decode b_BD_out 41 = .ok (.iload_n 2, 1) := by decide +kernel
theorem d_BD_out_42 : decode b_BD_out 42 = .ok (.if_icmp .ge 28, 3) := by decide +kernel
theorem d_BD_out_45 : decode b_BD_out 45 = .ok (.lload_n 3, 1) := by decide +kernel
theorem d_BD_out_46 : decode b_BD_out 46 = .ok (.aload_n 0, 1) := by decide +kernel
theorem d_BD_out_47 : decode b_BD_out 47 = .ok (.getfield 45, 3) := by decide +kernel
theorem d_BD_out_50 : decode b_BD_out 50 = .ok (.iload_n 1, 1) := by decide +kernel
theorem d_BD_out_51 : decode b_BD_out 51 = .ok (.iload 5, 2) := by decide +kernel
theorem d_BD_out_53 : decode b_BD_out 53 = .ok (.iadd, 1) := by decide +kernel
theorem d_BD_out_54 : decode b_BD_out 54 = .ok (.baload, 1) := by decide +kernel
theorem d_BD_out_55 : decode b_BD_out 55 = .ok (.i2l, 1) := by decide +kernel
theorem d_BD_out_56 : decode b_BD_out 56 = .ok (.bipush 8, 2) := by decide +kernel
theorem d_BD_out_58 : decode b_BD_out 58 = .ok (.iload 5, 2) := by decide +kernel
theorem d_BD_out_60 : decode b_BD_out 60 = .ok (.imul, 1) := by decide +kernel
theorem d_BD_out_61 : decode b_BD_out 61 = .ok (.lshl, 1) := by decide +kernel
theorem d_BD_out_62 : decode b_BD_out 62 = .ok (.lor, 1) := by decide +kernel
theorem d_BD_out_63 : decode b_BD_out 63 = .ok (.lstore_n 3, 1) := by decide +kernel
theorem d_BD_out_64 : decode b_BD_out 64 = .ok (.iinc 5 1, 3) := by decide +kernel
theorem d_BD_out_67 : decode b_BD_out 67 = .ok (.goto (-28), 3) := by decide +kernel
theorem d_BD_out_70 : decode b_BD_out 70 = .ok (.lload_n 3, 1) := by decide +kernel
theorem d_BD_out_71 : decode b_BD_out 71 = .ok (.lreturn, 1) := by decide +kernel
theorem d_LW_out_0 : decode b_LW_out 0 = .ok (.aload_n 2, 1) := by decide +kernel
theorem d_LW_out_1 : decode b_LW_out 1 = .ok (.iconst 0, 1) := by decide +kernel
theorem d_LW_out_2 : decode b_LW_out 2 = .ok (.aload_n 0, 1) := by decide +kernel
theorem d_LW_out_3 : decode b_LW_out 3 = .ok (.iload_n 1, 1) := by decide +kernel
theorem d_LW_out_4 : decode b_LW_out 4 = .ok (.invokevirtual 84, 3) := by decide +kernel
theorem d_LW_out_7 : decode b_LW_out 7 = .ok (.lastore, 1) := by decide +kernel
theorem d_LW_out_8 : decode b_LW_out 8 = .ok (.goto 6, 3) := by decide +kernel
theorem d_LW_out_11 : decode b_LW_out 11 = .ok (.astore_n 3, 1) := by decide +kernel
theorem d_LW_out_12 : decode b_LW_out 12 = .ok (.iconst 1, 1) := by decide +kernel
theorem d_LW_out_13 : decode b_LW_out 13 = .ok (.ireturn, 1) := by decide +kernel
theorem d_LW_out_14 : decode b_LW_out 14 = .ok (.iconst 0, 1) := by decide +kernel
theorem d_LW_out_15 : decode b_LW_out 15 = .ok (.ireturn, 1) := by decide +kernel
abbrev rm_BD_out : Room := { frames := 6, cells := 1, slots := 6, locals := 90 }
def bk_BD_out_12  (K : Int64 → ah_H → Prop) (Ex : String → ah_H → Prop)  (h4 : ah_H) : Prop :=
  Ex "java/util/NoSuchElementException" h4
def lp_BD_out_39 (xt_70 : Int64 → ah_H → Prop) (K : Int64 → ah_H → Prop) (Ex : String → ah_H → Prop) : Nat → Nat → Int32 → Int32 → Int64 → Int32 → ah_H → Prop
  | 0, _, _, _, _, _, _ => False
  | n + 1, x8, x9, x10, x11, x12, h13 =>
    (x10 ≤ x12 → (xt_70 x11 h13)) ∧ (¬ x10 ≤ x12 → (ah_T h13 x8 = 4 ∧ ∃ q16, ah_R h13 12 x8 = some q16 ∧ ah_T h13 q16 = 101 ∧ vp_in (x9 + x12) (ah_N h13 q16) ∧ ∀ v20 : Int64, v20 = x11 ||| (((ah_bI h13 q16 (x9 + x12).toNatClampNeg).toInt64) <<< (((8 : Int32) * x12).toInt64 &&& 63)) → ∀ v21 : Int32, v21 = x12 + 1 → (lp_BD_out_39 xt_70 K Ex n) x8 x9 x10 v20 v21 h13))
def w_BD_out (a1 : Nat) (a2 : Int32) (h0 : ah_H) (K : Int64 → ah_H → Prop) (Ex : String → ah_H → Prop) : Prop :=
  (a2 < 0 → (bk_BD_out_12 K Ex h0)) ∧ (¬ a2 < 0 → (ah_T h0 a1 = 4 ∧ (a2 < (ah_I h0 3 a1) → (∀ v7 : Int32, v7 = (if ((ah_I h0 3 a1) - a2) < (8 : Int32) then ((ah_I h0 3 a1) - a2) else (8 : Int32)) → ∃ k24, lp_BD_out_39 (fun (x22 : Int64) h23 => K x22 h23) K Ex k24 a1 a2 v7 (0 : Int64) (0 : Int32) h0)) ∧ (¬ a2 < (ah_I h0 3 a1) → (bk_BD_out_12 K Ex h0))))
abbrev rm_LW_out : Room := { frames := 7, cells := 1, slots := 6, locals := 115 }
def w_LW_out (a1 : Nat) (a2 : Int32) (a3 : Nat) (h0 : ah_H) (K : Int32 → ah_H → Prop) : Prop :=
  ah_T h0 a1 = 4 ∧ w_BD_out a1 a2 h0 (fun r6 h5 => ah_m h0 h5 → ah_T h5 a3 = 110 ∧ vp_in (0 : Int32) (ah_N h5 a3) ∧ ∀ h15 : ah_H, h15 = ah_cL h5 a3 (vp_updL (ah_bL h5 a3) (0 : Int32).toNatClampNeg r6) → K (0 : Int32) h15) (fun E7 h8 => ah_m h0 h8 → ((E7 = "java/util/NoSuchElementException" ∧ (K (1 : Int32) h8))))
set_option maxHeartbeats 4000000 in
set_option maxRecDepth 100000 in
theorem tb_BD_out_12 {p : Program} {l : Launch} {e : Env} {s : State} {m : MethodId} {args : Array Value} {below : List Frame} {meth : Method} {c : Code} {G : zG} (C : cx_C p l s m args meth c G y_BD_out b_BD_out 6 (some .long) "BigDesk" (Cond.code y_BD_out b_BD_out 6 (some .long) :: zx_T) []) {K : Int64 → ah_H → Prop} {Ex : String → ah_H → Prop} {h0 : ah_H} {cells slots : Nat} (hcl : cells + 1 ≤ 1) (hsl : slots + 6 ≤ 6)   (h4 : ah_H) (H : Heap) (locs : List Loc) (ls : Array Slot) (w : bk_BD_out_12 K Ex h4) (hm : ah_m h0 h4) (hW : ah_W G s.heap h4 H locs) (hl : lv_has ls 6 []) : W p l e rm_BD_out s m args below meth c H locs cells slots (vx_MQ below (va_Ql (fun r9 h9 => K r9 h9 ∧ ah_m h0 h9) (ah_B G) (fun q => G.2.2 ≤ q)) (ah_X G (fun E9 h9 => Ex E9 h9 ∧ ah_m h0 h9)) args s 1 6 (fun q => G.2.2 ≤ q)) (F0 m 12 ls []) := by
  unfold bk_BD_out_12 at w
  obtain ⟨hx, hb, hr, hml, hown, hts, hT, hlk, hK, hX, htb, hin, hst⟩ := id C
  have hw : ∀ {w9 : Cond}, w9 ∈ zx_T → w9.before _ s = true := fun h9 => hts _ (hT _ h9)
  exact hx_throwN (Ex := fun E9 h9 => Ex E9 h9 ∧ ah_m h0 h9) hx hb hst hown hts hT hX wd_602 wd_17 (is := 179) (text := "no such byte") (by decide) hW (by rw [hml]; exact hl.1) d_BD_out_12 d_BD_out_15 d_BD_out_16 d_BD_out_18 d_BD_out_21 (cx_nil htb) (Nat.le_of_ble_eq_true rfl) (Nat.le_of_ble_eq_true rfl) (by show _ ≤ 1; omega) (by show _ ≤ 6; omega) hlk ⟨w, hm⟩ (by omega) (by omega)
set_option maxHeartbeats 4000000 in
set_option maxRecDepth 100000 in
theorem tl_BD_out_39 {p : Program} {l : Launch} {e : Env} {s : State} {m : MethodId} {args : Array Value} {below : List Frame} {meth : Method} {c : Code} {G : zG} (C : cx_C p l s m args meth c G y_BD_out b_BD_out 6 (some .long) "BigDesk" (Cond.code y_BD_out b_BD_out 6 (some .long) :: zx_T) []) {K : Int64 → ah_H → Prop} {Ex : String → ah_H → Prop} {h0 : ah_H} {cells slots : Nat} (hcl : cells + 0 ≤ 1) (hsl : slots + 0 ≤ 6) {xt_70 : Int64 → ah_H → Prop} (hc_xt_70 : ∀ (z0 : Int64) (hz : ah_H) (H : Heap) (locs : List Loc) (ls : Array Slot), xt_70 z0 hz → ah_m h0 hz → ah_W G s.heap hz H locs → lv_has ls 6 [(3, .long z0)] → W p l e rm_BD_out s m args below meth c H locs cells slots (vx_MQ below (va_Ql (fun r9 h9 => K r9 h9 ∧ ah_m h0 h9) (ah_B G) (fun q => G.2.2 ≤ q)) (ah_X G (fun E9 h9 => Ex E9 h9 ∧ ah_m h0 h9)) args s 1 6 (fun q => G.2.2 ≤ q)) (F0 m 70 ls [])) : ∀ (n : Nat) (x8 : Nat) (x9 : Int32) (x10 : Int32) (x11 : Int64) (x12 : Int32) (h13 : ah_H) (H : Heap) (locs : List Loc) (ls : Array Slot), lp_BD_out_39 xt_70 K Ex n x8 x9 x10 x11 x12 h13 → ah_m h0 h13 → ah_W G s.heap h13 H locs → lv_has ls 6 [(0, .ref x8), (1, .int x9), (2, .int x10), (3, .long x11), (5, .int x12)] → W p l e rm_BD_out s m args below meth c H locs cells slots (vx_MQ below (va_Ql (fun r9 h9 => K r9 h9 ∧ ah_m h0 h9) (ah_B G) (fun q => G.2.2 ≤ q)) (ah_X G (fun E9 h9 => Ex E9 h9 ∧ ah_m h0 h9)) args s 1 6 (fun q => G.2.2 ≤ q)) (F0 m 39 ls []) := by
  obtain ⟨hx, hb, hr, hml, hown, hts, hT, hlk, hK, hX, htb, hin, hst⟩ := id C
  have hw : ∀ {w9 : Cond}, w9 ∈ zx_T → w9.before _ s = true := fun h9 => hts _ (hT _ h9)
  intro n
  induction n with
  | zero =>
    intro x8 x9 x10 x11 x12 h13 H locs ls w
    exact absurd w (by intro z9; exact z9)
  | succ n ih =>
    intro x8 x9 x10 x11 x12 h13 H locs ls w hm hW hl
    unfold lp_BD_out_39 at w
    refine lv_iload hx hb d_BD_out_39 (lv_at hl 4 rfl) ?_
    refine lv_iload_n hx hb d_BD_out_41 rfl (lv_at hl 2 rfl) ?_
    refine lv_icmp_ge (tgt := 70) hx hb d_BD_out_42 (by decide) (fun c14 => ?_) (fun c14 => ?_)
    · have w := w.1 c14
      exact hc_xt_70 x11 h13 _ _ _ w hm hW (lv_sub hl [3] rfl)
    · have w := w.2 c14
      refine lv_lload_n hx hb d_BD_out_45 rfl (lv_at hl 3 rfl) ?_
      refine lv_aload_n hx hb d_BD_out_46 rfl (lv_at hl 0 rfl) ?_
      obtain ⟨t15, w⟩ := w
      obtain ⟨q16, e17, w⟩ := w
      refine hb_get (ci := 3) (C := "BigDesk") (T := T_BD) (N := 9) hx hb hts (fun w9 h9 => hT w9 (u_BD w9 h9)) hown hK hW t15 rfl (by decide) 7 (by decide) (hw wd_111) (fun _ h9 => h9) (q := (2, 12)) rfl (v := .ref q16) (ah_f_R e17) d_BD_out_47 ?_
      refine lv_iload_n hx hb d_BD_out_50 rfl (lv_at hl 1 rfl) ?_
      refine lv_iload hx hb d_BD_out_51 (lv_at hl 4 rfl) ?_
      refine lv_iadd hx hb d_BD_out_53 ?_
      obtain ⟨t18, w⟩ := w
      obtain ⟨i19, w⟩ := w
      refine hb_bald hx hb hK hW t18 (by decide) (by decide) 1 rfl i19 d_BD_out_54 ?_
      refine lv_i2l hx hb d_BD_out_55 rfl ?_
      refine lv_bipush (v := 8) hx hb d_BD_out_56 (by decide) ?_
      refine lv_iload hx hb d_BD_out_58 (lv_at hl 4 rfl) ?_
      refine lv_imul hx hb d_BD_out_60 ?_
      refine lv_lshl hx hb d_BD_out_61 rfl ?_
      refine lv_lor hx hb d_BD_out_62 ?_
      refine lv_topl (fun v20 ev20 => ?_)
      have w := w v20 ev20
      refine lv_lstore_n (lv' := [(3, .long v20), (0, .ref x8), (1, .int x9), (2, .int x10), (5, .int x12)]) hx hb d_BD_out_63 rfl hl (by decide) rfl (fun ls hl => ?_)
      obtain ⟨v21, ev21⟩ : ∃ y9 : Int32, y9 = x12 + 1 := ⟨_, rfl⟩
      have w := w v21 ev21
      refine lv_iinc (v := v21) (lv' := [(5, .int v21), (3, .long v20), (0, .ref x8), (1, .int x9), (2, .int x10)]) hx hb d_BD_out_64 hl (k := 4) rfl (by rw [ev21]; rfl) (by decide) rfl (fun ls hl => ?_)
      refine lv_goto (tgt := 39) hx hb d_BD_out_67 (by decide) ?_
      exact ih x8 x9 x10 v20 v21 h13 _ _ _ w hm hW (lv_sub hl [2, 3, 4, 1, 0] rfl)
set_option maxHeartbeats 4000000 in
set_option maxRecDepth 100000 in
theorem m_BD_out {l : Launch} (G : zG) (a1 : Nat) (a2 : Int32) (h0 : ah_H) {K : Int64 → ah_H → Prop} {Ex : String → ah_H → Prop} (hst : l.stackTraces = false) (w : w_BD_out a1 a2 h0 K Ex) : vx_Met l y_BD_out (Cond.code y_BD_out b_BD_out 6 (some .long) :: zx_T) rm_BD_out (va_Pc [.ref a1, .int a2] (ah_B G h0)) (va_Ql (fun r9 h9 => K r9 h9 ∧ ah_m h0 h9) (ah_B G) (fun q => G.2.2 ≤ q)) (ah_X G (fun E9 h9 => Ex E9 h9 ∧ ah_m h0 h9)) 1 6 (fun q => G.2.2 ≤ q) := by
  refine vx_ofW (cc := b_BD_out) (maxL := 6) (ret := (some .long)) (by decide) rfl ?_
  intro p e s m args below meth c s₁ B hml hout0 hv
  have htb := cx_out B (atoms_spec B.pre _ List.mem_cons_self)
  obtain ⟨rfl, hB⟩ := hv
  have C : cx_C p l s m _ meth c G y_BD_out b_BD_out 6 (some .long) "BigDesk" (Cond.code y_BD_out b_BD_out 6 (some .long) :: zx_T) [] := ⟨B.exec, B.bytes, B.returns, hml, findClass_of_methodNamed B.named, atoms_spec B.pre, cx_hd, B.notSynchronized, hB.2.2.1, hB.2.2.2, htb, fun z9 => (name_of_methodNamed B.named B.method).1.trans z9, hst⟩
  obtain ⟨hx, hb, hr, hml, hown, hts, hT, hlk, hK, hX, htb, hin, hst⟩ := id C
  have hw : ∀ {w9 : Cond}, w9 ∈ zx_T → w9.before _ s = true := fun h9 => hts _ (hT _ h9)
  have hW : ah_W G s.heap h0 s.heap [] := ⟨hB.1, hB.2.1, va_S.rf⟩
  have hm : ah_m h0 h0 := ah_m.rf
  have hcl : 0 + 1 ≤ 1 := by decide
  have hsl : 0 + 6 ≤ 6 := by decide
  have hl := lv_entry ([.ref a1, .int a2]) (n := 6) (Nat.le_of_ble_eq_true rfl)
  rw [lg_entry_eq]
  generalize (lg_sl ([.ref a1, .int a2]) ++ List.replicate (6 - (lg_sl ([.ref a1, .int a2])).length) Slot.unset).toArray = ls at hl ⊢
  have hl : lv_has ls 6 [(0, .ref a1), (1, .int a2)] := hl
  unfold w_BD_out at w
  refine lv_iload_n hx hb d_BD_out_0 rfl (lv_at hl 1 rfl) ?_
  refine lv_if_lt (tgt := 12) hx hb d_BD_out_1 (by decide) (fun c3 => ?_) (fun c3 => ?_)
  · have w := w.1 c3
    exact tb_BD_out_12 C (by omega) (by omega)   h0 _ _ _ w hm hW (lv_sub hl [] rfl)
  · have w := w.2 c3
    refine lv_iload_n hx hb d_BD_out_4 rfl (lv_at hl 1 rfl) ?_
    refine lv_aload_n hx hb d_BD_out_5 rfl (lv_at hl 0 rfl) ?_
    obtain ⟨t5, w⟩ := w
    refine hb_get (ci := 3) (C := "BigDesk") (T := T_BD) (N := 9) hx hb hts (fun w9 h9 => hT w9 (u_BD w9 h9)) hown hK hW t5 rfl (by decide) 8 (by decide) (hw wd_112) (fun _ h9 => h9) (q := (0, 3)) rfl (v := .int (ah_I h0 3 a1)) rfl d_BD_out_6 ?_
    refine lv_icmp_lt (tgt := 22) hx hb d_BD_out_9 (by decide) (fun c6 => ?_) (fun c6 => ?_)
    · have w := w.1 c6
      refine lv_bipush (v := 8) hx hb d_BD_out_22 (by decide) ?_
      refine lv_aload_n hx hb d_BD_out_24 rfl (lv_at hl 0 rfl) ?_
      refine hb_get (ci := 3) (C := "BigDesk") (T := T_BD) (N := 9) hx hb hts (fun w9 h9 => hT w9 (u_BD w9 h9)) hown hK hW t5 rfl (by decide) 8 (by decide) (hw wd_112) (fun _ h9 => h9) (q := (0, 3)) rfl (v := .int (ah_I h0 3 a1)) rfl d_BD_out_25 ?_
      refine lv_iload_n hx hb d_BD_out_28 rfl (lv_at hl 1 rfl) ?_
      refine lv_isub hx hb d_BD_out_29 ?_
      refine va_mmin hx hb (by rw [hml]; exact hl.1.symm) hown (hw wd_618) (hw wd_258) (hw wd_12) (hw wd_259) (Nat.le_of_ble_eq_true rfl) (Nat.le_of_ble_eq_true rfl) (by show _ ≤ 1; omega) (by show _ ≤ 6; omega) d_BD_out_30 ?_
      refine lv_topi (fun v7 ev7 => ?_)
      have w := w v7 ev7
      refine lv_istore_n (lv' := [(2, .int v7), (0, .ref a1), (1, .int a2)]) hx hb d_BD_out_33 rfl hl (by decide) rfl (fun ls hl => ?_)
      refine lv_lconst (v := 0) hx hb d_BD_out_34 (by decide) ?_
      refine lv_lstore_n (lv' := [(3, .long (0 : Int64)), (2, .int v7), (0, .ref a1), (1, .int a2)]) hx hb d_BD_out_35 rfl hl (by decide) rfl (fun ls hl => ?_)
      refine lv_iconst (v := 0) hx hb d_BD_out_36 (by decide) ?_
      refine lv_istore (lv' := [(5, .int (0 : Int32)), (3, .long (0 : Int64)), (2, .int v7), (0, .ref a1), (1, .int a2)]) hx hb d_BD_out_37 hl (by decide) rfl (fun ls hl => ?_)
      obtain ⟨k24, w⟩ := w
      refine tl_BD_out_39 C (by omega) (by omega) (fun x22 h23 H locs ls w hm hW hl => ?_) k24 a1 a2 v7 (0 : Int64) (0 : Int32) h0 _ _ _ w hm hW (lv_sub hl [3, 4, 2, 1, 0] rfl)
      · refine lv_lload_n hx hb d_BD_out_70 rfl (lv_at hl 0 rfl) ?_
        exact vx_ret (hb_lret (K := fun r9 h9 => K r9 h9 ∧ ah_m h0 h9) hx hb hr hlk hK hX hW ⟨w, hm⟩ (by omega) (by omega) d_BD_out_71)
    · have w := w.2 c6
      exact tb_BD_out_12 C (by omega) (by omega)   h0 _ _ _ w hm hW (lv_sub hl [] rfl)
set_option maxHeartbeats 4000000 in
set_option maxRecDepth 100000 in
theorem m_LW_out {l : Launch} (G : zG) (a1 : Nat) (a2 : Int32) (a3 : Nat) (h0 : ah_H) {K : Int32 → ah_H → Prop} (hst : l.stackTraces = false) (w : w_LW_out a1 a2 a3 h0 K) : Met l y_LW_out (Cond.codeWith y_LW_out b_LW_out 4 (some .int) [((0 : Nat), (8 : Nat), (11 : Nat), (87 : Nat))] :: zx_T) rm_LW_out (va_Pc [.ref a1, .int a2, .ref a3] (ah_B G h0)) (va_Qi (fun r9 h9 => K r9 h9 ∧ ah_m h0 h9) (ah_B G) (fun q => G.2.2 ≤ q)) 1 6 (fun q => G.2.2 ≤ q) := by
  refine va_MetW (cc := b_LW_out) (maxL := 4) (ret := (some .int)) (hh :=  [((0 : Nat), (8 : Nat), (11 : Nat), (87 : Nat))]) (by decide) rfl ?_
  intro p e s m args below meth c s₁ B hml hv
  have htb := vx_table (x := y_LW_out) B (atoms_spec B.pre _ List.mem_cons_self)
  obtain ⟨rfl, hB⟩ := hv
  have C : cx_C p l s m _ meth c G y_LW_out b_LW_out 4 (some .int) "BigDeskLaw" (Cond.codeWith y_LW_out b_LW_out 4 (some .int) [((0 : Nat), (8 : Nat), (11 : Nat), (87 : Nat))] :: zx_T) (tableOf [((0 : Nat), (8 : Nat), (11 : Nat), (87 : Nat))]) := ⟨B.exec, B.bytes, B.returns, hml, findClass_of_methodNamed B.named, atoms_spec B.pre, cx_hd, B.notSynchronized, hB.2.2.1, hB.2.2.2, htb, fun z9 => (name_of_methodNamed B.named B.method).1.trans z9, hst⟩
  obtain ⟨hx, hb, hr, hml, hown, hts, hT, hlk, hK, hX, htb, hin, hst⟩ := id C
  have hw : ∀ {w9 : Cond}, w9 ∈ zx_T → w9.before _ s = true := fun h9 => hts _ (hT _ h9)
  have hW : ah_W G s.heap h0 s.heap [] := ⟨hB.1, hB.2.1, va_S.rf⟩
  have hm : ah_m h0 h0 := ah_m.rf
  have hcl : 0 + 1 ≤ 1 := by decide
  have hsl : 0 + 6 ≤ 6 := by decide
  have hl := lv_entry ([.ref a1, .int a2, .ref a3]) (n := 4) (Nat.le_of_ble_eq_true rfl)
  rw [lg_entry_eq]
  generalize (lg_sl ([.ref a1, .int a2, .ref a3]) ++ List.replicate (4 - (lg_sl ([.ref a1, .int a2, .ref a3])).length) Slot.unset).toArray = ls at hl ⊢
  have hl : lv_has ls 4 [(0, .ref a1), (1, .int a2), (2, .ref a3)] := hl
  unfold w_LW_out at w
  refine lv_aload_n hx hb d_LW_out_0 rfl (lv_at hl 2 rfl) ?_
  refine lv_iconst (v := 0) hx hb d_LW_out_1 (by decide) ?_
  refine lv_aload_n hx hb d_LW_out_2 rfl (lv_at hl 0 rfl) ?_
  refine lv_iload_n hx hb d_LW_out_3 rfl (lv_at hl 1 rfl) ?_
  obtain ⟨t4, w⟩ := w
  refine hx_l (vx_runV (As := [.int a2]) (rest := [.int (0 : Int32), .ref a3]) ⟨hx, hb, hml, hown, hts⟩ (m_BD_out G a1 a2 h0 hst w) (cwV 1 hts (zx_gV hT wd_598 wd_599 wd_600 wd_1 wd_601) rfl rfl rfl (by decide +kernel) ⟨Nat.le_of_ble_eq_true rfl, Nat.le_of_ble_eq_true rfl⟩) (hb_preV hK hX hW t4 (by decide) rfl) rfl rfl hl.1 rfl (lv_room (Nat.le_of_ble_eq_true rfl)) d_LW_out_4 ⟨(by show _ ≤ 1; omega), (by show _ ≤ 6; omega)⟩) hW (fun E7 ce9 q9 h8 H locs hE hW c1 c2 c3 => ?_) (fun r6 h5 H locs hk hW => ?_)
  · obtain ⟨wE, mm10⟩ := hE
    have hm := hm.tr mm10
    rcases wE mm10 with ⟨rfl, w⟩
    · refine vx_catch (name := "java/util/NoSuchElementException") hown [] ⟨0, 8, 11, 87⟩ [] (by rw [htb]; rfl) (fun _ h9 => nomatch h9) rfl (by decide) (hw wd_597) (zx_use hts hT hX zx_cast_NoSuchElementException rfl) c1 c2 c3 ?_
      refine W.eq (g2 := F0 m 11 ls [.ref q9]) rfl ?_
      refine lv_astore_n (lv' := [(3, .ref q9), (0, .ref a1), (1, .int a2), (2, .ref a3)]) hx hb d_LW_out_11 rfl hl (by decide) rfl (fun ls hl => ?_)
      refine lv_iconst (v := 1) hx hb d_LW_out_12 (by decide) ?_
      exact hb_iret (K := fun r9 h9 => K r9 h9 ∧ ah_m h0 h9) hx hb hr hlk hK hX hW ⟨w, hm⟩ (by omega) (by omega) d_LW_out_13
  · skip
    obtain ⟨w, mm11⟩ := hk
    have w := w mm11
    have hm := hm.tr mm11
    have t12 := mm11.tg t4 (by decide)
    obtain ⟨t13, w⟩ := w
    obtain ⟨i14, w⟩ := w
    refine hb_last hx hb hK hW t13 (by decide) (by decide) 2 rfl i14 d_LW_out_7 (fun H locs h15 eh15 hW => ?_)
    have w := w h15 eh15
    have mm16 : ah_m h5 h15 := ah_m.rf.st (by rw [eh15]; rfl) (by rw [eh15]; rfl)
    have hm := hm.tr mm16
    have t17 := mm16.tg t12 (by decide)
    have t18 := mm16.tg t13 (by decide)
    refine lv_goto (tgt := 14) hx hb d_LW_out_8 (by decide) ?_
    refine lv_iconst (v := 0) hx hb d_LW_out_14 (by decide) ?_
    exact hb_iret (K := fun r9 h9 => K r9 h9 ∧ ah_m h0 h9) hx hb hr hlk hK hX hW ⟨w, hm⟩ (by omega) (by omega) d_LW_out_15
