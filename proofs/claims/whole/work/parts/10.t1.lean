theorem d_WH_at_0 : decode b_WH_at 0 = .ok (.iload_n 1, 1) := by decide +kernel
theorem d_WH_at_1 : decode b_WH_at 1 = .ok (.ifCond .lt 19, 3) := by decide +kernel
theorem d_WH_at_4 : decode b_WH_at 4 = .ok (.iload_n 1, 1) := by decide +kernel
theorem d_WH_at_5 : decode b_WH_at 5 = .ok (.sipush 258, 3) := by decide +kernel
theorem d_WH_at_8 : decode b_WH_at 8 = .ok (.if_icmp .ge 12, 3) := by decide +kernel
theorem d_WH_at_11 : decode b_WH_at 11 = .ok (.aload_n 0, 1) := by decide +kernel
theorem d_WH_at_12 : decode b_WH_at 12 = .ok (.getfield 9, 3) := by decide +kernel
theorem d_WH_at_15 : decode b_WH_at 15 = .ok (.iload_n 1, 1) := by decide +kernel
theorem d_WH_at_16 : decode b_WH_at 16 = .ok (.laload, 1) := by decide +kernel
theorem d_WH_at_17 : decode b_WH_at 17 = .ok (.goto 4, 3) := by decide +kernel
theorem d_WH_at_20 : decode b_WH_at 20 = .ok (.lconst 0, 1) := by decide +kernel
theorem d_WH_at_21 : decode b_WH_at 21 = .ok (.lreturn, 1) := by decide +kernel
theorem d_WH_settle_0 : decode b_WH_settle 0 = .ok (.iload_n 1, 1) := by decide +kernel
theorem d_WH_settle_1 : decode b_WH_settle 1 = .ok (.istore_n 2, 1) := by decide +kernel
theorem d_WH_settle_2 : decode b_WH_settle 2 = .ok (.iload_n 2, 1) := by decide +kernel
theorem d_WH_settle_3 : decode b_WH_settle 3 = .ok (.aload_n 0, 1) := by decide +kernel
theorem d_WH_settle_4 : decode b_WH_settle 4 = .ok (.getfield 15, 3) := by decide +kernel
theorem d_WH_settle_7 : decode b_WH_settle 7 = .ok (.if_icmp .ge 16, 3) := by decide +kernel
theorem d_WH_settle_10 : decode b_WH_settle 10 = .ok (.aload_n 0, 1) := by decide +kernel
theorem d_WH_settle_11 : decode b_WH_settle 11 = .ok (.getfield 9, 3) := by decide +kernel
theorem d_WH_settle_14 : decode b_WH_settle 14 = .ok (.iload_n 2, 1) := by decide +kernel
theorem d_WH_settle_15 : decode b_WH_settle 15 = .ok (.lconst 0, 1) := by decide +kernel
theorem d_WH_settle_16 : decode b_WH_settle 16 = .ok (.lastore, 1) := by decide +kernel
theorem d_WH_settle_17 : decode b_WH_settle 17 = .ok (.iinc 2 1, 3) := by decide +kernel
theorem d_WH_settle_20 : decode b_WH_settle 20 = .ok (.goto (-18), 3) := by decide +kernel
theorem d_WH_settle_23 : decode b_WH_settle 23 = .ok (.aload_n 0, 1) := by decide +kernel
theorem d_WH_settle_24 : decode b_WH_settle 24 = .ok (.iload_n 1, 1) := by decide +kernel
theorem d_WH_settle_25 : decode b_WH_settle 25 = .ok (.putfield 15, 3) := by decide +kernel
theorem d_WH_settle_28 : decode b_WH_settle 28 = .ok (.aload_n 0, 1) := by decide +kernel
theorem d_WH_settle_29 : decode b_WH_settle 29 = .ok (.getfield 15, 3) := by decide +kernel
theorem d_WH_settle_32 : decode b_WH_settle 32 = .ok (.ifCond .le 32, 3) := by decide +kernel
theorem d_WH_settle_35 : decode b_WH_settle 35 = .ok (.aload_n 0, 1) := by decide +kernel
theorem d_WH_settle_36 : decode b_WH_settle 36 = .ok (.getfield 9, 3) := by decide +kernel
theorem d_WH_settle_39 : decode b_WH_settle 39 = .ok (.aload_n 0, 1) := by decide +kernel
theorem d_WH_settle_40 : decode b_WH_settle 40 = .ok (.getfield 15, 3) := by decide +kernel
theorem d_WH_settle_43 : decode b_WH_settle 43 = .ok (.iconst 1, 1) := by decide +kernel
theorem d_WH_settle_44 : decode b_WH_settle 44 = .ok (.isub, 1) := by decide +kernel
theorem d_WH_settle_45 : decode b_WH_settle 45 = .ok (.laload, 1) := by decide +kernel
theorem d_WH_settle_46 : decode b_WH_settle 46 = .ok (.lconst 0, 1) := by decide +kernel
theorem d_WH_settle_47 : decode b_WH_settle 47 = .ok (.lcmp, 1) := by decide +kernel
theorem d_WH_settle_48 : decode b_WH_settle 48 = .ok (.ifCond .ne 16, 3) := by decide +kernel
theorem d_WH_settle_51 : decode b_WH_settle 51 = .ok (.aload_n 0, 1) := by decide +kernel
theorem d_WH_settle_52 : decode b_WH_settle 52 = .ok (.dup, 1) := by decide +kernel
theorem d_WH_settle_53 : decode b_WH_settle 53 = .ok (.getfield 15, 3) := by decide +kernel
theorem d_WH_settle_56 : decode b_WH_settle 56 = .ok (.iconst 1, 1) := by decide +kernel
theorem d_WH_settle_57 : decode b_WH_settle 57 = .ok (.isub, 1) := by decide +kernel
theorem d_WH_settle_58 : decode b_WH_settle 58 = .ok (.putfield 15, 3) := by decide +kernel
theorem d_WH_settle_61 : decode b_WH_settle 61 = .ok (.goto (-33), 3) := by decide +kernel
theorem d_WH_settle_64 : decode b_WH_settle 64 = .ok (.return_, 1) := by decide +kernel
theorem d_WH_markSign_0 : decode b_WH_markSign 0 = .ok (.aload_n 0, 1) := by decide +kernel
theorem d_WH_markSign_1 : decode b_WH_markSign 1 = .ok (.iload_n 1, 1) := by decide +kernel
theorem d_WH_markSign_2 : decode b_WH_markSign 2 = .ok (.ifCond .eq 14, 3) := by decide +kernel
theorem d_WH_markSign_5 : decode b_WH_markSign 5 = .ok (.aload_n 0, 1) := by decide +kernel
theorem d_WH_markSign_6 : decode b_WH_markSign 6 = .ok (.getfield 15, 3) := by decide +kernel
theorem d_WH_markSign_9 : decode b_WH_markSign 9 = .ok (.ifCond .le 7, 3) := by decide +kernel
theorem d_WH_markSign_12 : decode b_WH_markSign 12 = .ok (.iconst 1, 1) := by decide +kernel
theorem d_WH_markSign_13 : decode b_WH_markSign 13 = .ok (.goto 4, 3) := by decide +kernel
theorem d_WH_markSign_16 : decode b_WH_markSign 16 = .ok (.iconst 0, 1) := by decide +kernel
theorem d_WH_markSign_17 : decode b_WH_markSign 17 = .ok (.putfield 19, 3) := by decide +kernel
theorem d_WH_markSign_20 : decode b_WH_markSign 20 = .ok (.return_, 1) := by decide +kernel
theorem d_WH_clear_0 : decode b_WH_clear 0 = .ok (.aload_n 0, 1) := by decide +kernel
theorem d_WH_clear_1 : decode b_WH_clear 1 = .ok (.iconst 0, 1) := by decide +kernel
theorem d_WH_clear_2 : decode b_WH_clear 2 = .ok (.invokevirtual 23, 3) := by decide +kernel
theorem d_WH_clear_5 : decode b_WH_clear 5 = .ok (.aload_n 0, 1) := by decide +kernel
theorem d_WH_clear_6 : decode b_WH_clear 6 = .ok (.iconst 0, 1) := by decide +kernel
theorem d_WH_clear_7 : decode b_WH_clear 7 = .ok (.putfield 19, 3) := by decide +kernel
theorem d_WH_clear_10 : decode b_WH_clear 10 = .ok (.return_, 1) := by decide +kernel
abbrev rm_WH_at : Room := { frames := 0, cells := 0, slots := 0, locals := 0 }
def bk_WH_at_21  (K : Int64 → ah_H → Prop) (s5 : Int64) (h6 : ah_H) : Prop :=
  K s5 h6
def bk_WH_at_20  (K : Int64 → ah_H → Prop)  (h4 : ah_H) : Prop :=
  bk_WH_at_21 K (0 : Int64) h4
def w_WH_at (a1 : Nat) (a2 : Int32) (h0 : ah_H) (K : Int64 → ah_H → Prop) : Prop :=
  (a2 < 0 → (bk_WH_at_20 K h0)) ∧ (¬ a2 < 0 → (((258 : Int32) ≤ a2 → (bk_WH_at_20 K h0)) ∧ (¬ (258 : Int32) ≤ a2 → (ah_T h0 a1 = 3 ∧ ∃ q9, ah_R h0 5 a1 = some q9 ∧ ah_T h0 q9 = 110 ∧ vp_in a2 (ah_N h0 q9) ∧ bk_WH_at_21 K (ah_bL h0 q9 a2.toNatClampNeg) h0))))
abbrev rm_WH_settle : Room := { frames := 0, cells := 0, slots := 0, locals := 0 }
def lp_WH_settle_2 (xt_23 : Nat → Int32 → ah_H → Prop) (K : ah_H → Prop) : Nat → Nat → Int32 → Int32 → ah_H → Prop
  | 0, _, _, _, _ => False
  | n + 1, x3, x4, x5, h6 =>
    ah_T h6 x3 = 3 ∧ ((ah_I h6 0 x3) ≤ x5 → (xt_23 x3 x4 h6)) ∧ (¬ (ah_I h6 0 x3) ≤ x5 → (∃ q9, ah_R h6 5 x3 = some q9 ∧ ah_T h6 q9 = 110 ∧ vp_in x5 (ah_N h6 q9) ∧ ∀ h13 : ah_H, h13 = ah_cL h6 q9 (vp_updL (ah_bL h6 q9) x5.toNatClampNeg (0 : Int64)) → ∀ v17 : Int32, v17 = x5 + 1 → (lp_WH_settle_2 xt_23 K n) x3 x4 v17 h13))
def lp_WH_settle_28 (xt_64 : ah_H → Prop) (K : ah_H → Prop) : Nat → Nat → ah_H → Prop
  | 0, _, _ => False
  | n + 1, x25, h26 =>
    ah_T h26 x25 = 3 ∧ ((ah_I h26 0 x25) ≤ 0 → (xt_64 h26)) ∧ (¬ (ah_I h26 0 x25) ≤ 0 → (∃ q29, ah_R h26 5 x25 = some q29 ∧ ah_T h26 q29 = 110 ∧ vp_in ((ah_I h26 0 x25) - (1 : Int32)) (ah_N h26 q29) ∧ (¬ (ah_bL h26 q29 ((ah_I h26 0 x25) - (1 : Int32)).toNatClampNeg) = (0 : Int64) → (xt_64 h26)) ∧ ((ah_bL h26 q29 ((ah_I h26 0 x25) - (1 : Int32)).toNatClampNeg) = (0 : Int64) → (∀ v34 : Int32, v34 = (ah_I h26 0 x25) - (1 : Int32) → ∀ h35 : ah_H, h35 = ah_sI h26 0 x25 v34 → (lp_WH_settle_28 xt_64 K n) x25 h35))))
def bk_WH_settle_64  (K : ah_H → Prop)  (h40 : ah_H) : Prop :=
  K h40
def w_WH_settle (a1 : Nat) (a2 : Int32) (h0 : ah_H) (K : ah_H → Prop) : Prop :=
  ∃ n, lp_WH_settle_2 (fun (x18 : Nat) (x19 : Int32) h20 => ah_T h20 x18 = 3 ∧ ∀ h22 : ah_H, h22 = ah_sI h20 0 x18 x19 → ∃ n, lp_WH_settle_28 (fun  h39 => bk_WH_settle_64 K h39) K n x18 h22) K n a1 a2 a2 h0
abbrev rm_WH_markSign : Room := { frames := 0, cells := 0, slots := 0, locals := 0 }
def bk_WH_markSign_17  (K : ah_H → Prop) (s6 : Int32) (s7 : Nat) (h8 : ah_H) : Prop :=
  ah_T h8 s7 = 3 ∧ (s6 = 0 ∨ s6 = 1) ∧ ∀ h11 : ah_H, h11 = ah_sI h8 1 s7 s6 → K h11
def bk_WH_markSign_16  (K : ah_H → Prop) (s4 : Nat) (h5 : ah_H) : Prop :=
  bk_WH_markSign_17 K (0 : Int32) s4 h5
def w_WH_markSign (a1 : Nat) (a2 : Int32) (h0 : ah_H) (K : ah_H → Prop) : Prop :=
  (a2 = 0 → (bk_WH_markSign_16 K a1 h0)) ∧ (¬ a2 = 0 → (ah_T h0 a1 = 3 ∧ ((ah_I h0 0 a1) ≤ 0 → (bk_WH_markSign_16 K a1 h0)) ∧ (¬ (ah_I h0 0 a1) ≤ 0 → (bk_WH_markSign_17 K (1 : Int32) a1 h0))))
abbrev rm_WH_clear : Room := { frames := 1, cells := 0, slots := 0, locals := 22 }
def w_WH_clear (a1 : Nat) (h0 : ah_H) (K : ah_H → Prop) : Prop :=
  ah_T h0 a1 = 3 ∧ w_WH_settle a1 (0 : Int32) h0 (fun h3 => ah_m h0 h3 → ∀ h6 : ah_H, h6 = ah_sI h3 1 a1 (0 : Int32) → K h6)
set_option maxHeartbeats 4000000 in
set_option maxRecDepth 100000 in
theorem tb_WH_at_21 {p : Program} {l : Launch} {e : Env} {s : State} {m : MethodId} {args : Array Value} {below : List Frame} {meth : Method} {c : Code} {G : zG} (C : cx_C p l s m args meth c G y_WH_at b_WH_at 2 (some .long) "BigDesk$Whole") {K : Int64 → ah_H → Prop} {h0 : ah_H} {cells slots : Nat} (hcl : cells + 0 ≤ 0) (hsl : slots + 0 ≤ 0)  (s5 : Int64) (h6 : ah_H) (H : Heap) (locs : List Loc) (ls : Array Slot) (w : bk_WH_at_21 K s5 h6) (hm : ah_m h0 h6) (hW : ah_W G s.heap h6 H locs) (hl : lv_has ls 2 []) : W p l e rm_WH_at s m args below meth c H locs cells slots (MQ below (va_Ql (fun r9 h9 => K r9 h9 ∧ ah_m h0 h9) (ah_B G) (fun q => G.2.2 ≤ q)) args s 0 0 (fun q => G.2.2 ≤ q)) (F0 m 21 ls [.long s5]) := by
  unfold bk_WH_at_21 at w
  obtain ⟨hx, hb, hr, hml, hown, hts, hlk, hK, hX, hout, hin, hst⟩ := id C
  have hw : ∀ {w9 : Cond}, w9 ∈ zx_T → w9.before args s = true := fun h9 => hts _ (List.mem_cons_of_mem _ h9)
  exact hb_lret (K := fun r9 h9 => K r9 h9 ∧ ah_m h0 h9) hx hb hr hlk hK hX hW ⟨w, hm⟩ (by omega) (by omega) d_WH_at_21
set_option maxHeartbeats 4000000 in
set_option maxRecDepth 100000 in
theorem tb_WH_at_20 {p : Program} {l : Launch} {e : Env} {s : State} {m : MethodId} {args : Array Value} {below : List Frame} {meth : Method} {c : Code} {G : zG} (C : cx_C p l s m args meth c G y_WH_at b_WH_at 2 (some .long) "BigDesk$Whole") {K : Int64 → ah_H → Prop} {h0 : ah_H} {cells slots : Nat} (hcl : cells + 0 ≤ 0) (hsl : slots + 0 ≤ 0)   (h4 : ah_H) (H : Heap) (locs : List Loc) (ls : Array Slot) (w : bk_WH_at_20 K h4) (hm : ah_m h0 h4) (hW : ah_W G s.heap h4 H locs) (hl : lv_has ls 2 []) : W p l e rm_WH_at s m args below meth c H locs cells slots (MQ below (va_Ql (fun r9 h9 => K r9 h9 ∧ ah_m h0 h9) (ah_B G) (fun q => G.2.2 ≤ q)) args s 0 0 (fun q => G.2.2 ≤ q)) (F0 m 20 ls []) := by
  unfold bk_WH_at_20 at w
  obtain ⟨hx, hb, hr, hml, hown, hts, hlk, hK, hX, hout, hin, hst⟩ := id C
  have hw : ∀ {w9 : Cond}, w9 ∈ zx_T → w9.before args s = true := fun h9 => hts _ (List.mem_cons_of_mem _ h9)
  refine lv_lconst (v := 0) hx hb d_WH_at_20 (by decide) ?_
  exact tb_WH_at_21 C (by omega) (by omega)  (0 : Int64) h4 _ _ _ w hm hW (lv_sub hl [] rfl)
set_option maxHeartbeats 4000000 in
set_option maxRecDepth 100000 in
theorem m_WH_at {l : Launch} (G : zG) (a1 : Nat) (a2 : Int32) (h0 : ah_H) {K : Int64 → ah_H → Prop} (hst : l.stackTraces = false) (w : w_WH_at a1 a2 h0 K) : Met l y_WH_at (Cond.code y_WH_at b_WH_at 2 (some .long) :: zx_T) rm_WH_at (va_Pc [.ref a1, .int a2] (ah_B G h0)) (va_Ql (fun r9 h9 => K r9 h9 ∧ ah_m h0 h9) (ah_B G) (fun q => G.2.2 ≤ q)) 0 0 (fun q => G.2.2 ≤ q) := by
  refine Met.ofW (cc := b_WH_at) (maxL := 2) (ret := (some .long)) (by decide) rfl ?_
  intro p e s m args below meth c s₁ B hml hv
  have hout : ∀ x ∈ c.exceptionTable.toList, False := cx_out B (atoms_spec B.pre _ List.mem_cons_self)
  obtain ⟨rfl, hB⟩ := hv
  have C : cx_C p l s m _ meth c G y_WH_at b_WH_at 2 (some .long) "BigDesk$Whole" := ⟨B.exec, B.bytes, B.returns, hml, findClass_of_methodNamed B.named, atoms_spec B.pre, B.notSynchronized, hB.2.2.1, hB.2.2.2, hout, fun z9 => (name_of_methodNamed B.named B.method).1.trans z9, hst⟩
  obtain ⟨hx, hb, hr, hml, hown, hts, hlk, hK, hX, hout, hin, hst⟩ := id C
  have hw : ∀ {w9 : Cond}, w9 ∈ zx_T → w9.before _ s = true := fun h9 => hts _ (List.mem_cons_of_mem _ h9)
  have hW : ah_W G s.heap h0 s.heap [] := ⟨hB.1, hB.2.1, va_S.rf⟩
  have hm : ah_m h0 h0 := ah_m.rf
  have hcl : 0 + 0 ≤ 0 := by decide
  have hsl : 0 + 0 ≤ 0 := by decide
  have hl := lv_entry ([.ref a1, .int a2]) (n := 2) (Nat.le_of_ble_eq_true rfl)
  rw [lg_entry_eq]
  generalize (lg_sl ([.ref a1, .int a2]) ++ List.replicate (2 - (lg_sl ([.ref a1, .int a2])).length) Slot.unset).toArray = ls at hl ⊢
  have hl : lv_has ls 2 [(0, .ref a1), (1, .int a2)] := hl
  unfold w_WH_at at w
  refine lv_iload_n hx hb d_WH_at_0 rfl (lv_at hl 1 rfl) ?_
  refine lv_if_lt (tgt := 20) hx hb d_WH_at_1 (by decide) (fun c3 => ?_) (fun c3 => ?_)
  · have w := w.1 c3
    exact tb_WH_at_20 C (by omega) (by omega)   h0 _ _ _ w hm hW (lv_sub hl [] rfl)
  · have w := w.2 c3
    refine lv_iload_n hx hb d_WH_at_4 rfl (lv_at hl 1 rfl) ?_
    refine lv_sipush (v := 258) hx hb d_WH_at_5 (by decide) ?_
    refine lv_icmp_ge (tgt := 20) hx hb d_WH_at_8 (by decide) (fun c7 => ?_) (fun c7 => ?_)
    · have w := w.1 c7
      exact tb_WH_at_20 C (by omega) (by omega)   h0 _ _ _ w hm hW (lv_sub hl [] rfl)
    · have w := w.2 c7
      refine lv_aload_n hx hb d_WH_at_11 rfl (lv_at hl 0 rfl) ?_
      obtain ⟨t8, w⟩ := w
      obtain ⟨q9, e10, w⟩ := w
      refine hb_get (ci := 2) (C := "BigDesk$Whole") (T := T_WH) (N := 3) hx hb hts (fun w9 h9 => List.mem_cons_of_mem _ (u_WH w9 h9)) hown hK hW t8 rfl (by decide) 0 (by decide) (hw wd_33) (fun _ h9 => h9) (q := (2, 5)) rfl (v := .ref q9) (ah_f_R e10) d_WH_at_12 ?_
      refine lv_iload_n hx hb d_WH_at_15 rfl (lv_at hl 1 rfl) ?_
      obtain ⟨t11, w⟩ := w
      obtain ⟨i12, w⟩ := w
      refine hb_lald hx hb hK hW t11 (by decide) (by decide) 2 rfl i12 d_WH_at_16 ?_
      refine lv_goto (tgt := 21) hx hb d_WH_at_17 (by decide) ?_
      exact tb_WH_at_21 C (by omega) (by omega)  (ah_bL h0 q9 a2.toNatClampNeg) h0 _ _ _ w hm hW (lv_sub hl [] rfl)
set_option maxHeartbeats 4000000 in
set_option maxRecDepth 100000 in
theorem tl_WH_settle_2 {p : Program} {l : Launch} {e : Env} {s : State} {m : MethodId} {args : Array Value} {below : List Frame} {meth : Method} {c : Code} {G : zG} (C : cx_C p l s m args meth c G y_WH_settle b_WH_settle 3 none "BigDesk$Whole") {K : ah_H → Prop} {h0 : ah_H} {cells slots : Nat} (hcl : cells + 0 ≤ 0) (hsl : slots + 0 ≤ 0) {xt_23 : Nat → Int32 → ah_H → Prop} (hc_xt_23 : ∀ (z0 : Nat) (z1 : Int32) (hz : ah_H) (H : Heap) (locs : List Loc) (ls : Array Slot), xt_23 z0 z1 hz → ah_m h0 hz → ah_W G s.heap hz H locs → lv_has ls 3 [(0, .ref z0), (1, .int z1)] → W p l e rm_WH_settle s m args below meth c H locs cells slots (MQ below (va_Qv (fun h9 => K h9 ∧ ah_m h0 h9) (ah_B G) (fun q => G.2.2 ≤ q)) args s 0 0 (fun q => G.2.2 ≤ q)) (F0 m 23 ls [])) : ∀ (n : Nat) (x3 : Nat) (x4 : Int32) (x5 : Int32) (h6 : ah_H) (H : Heap) (locs : List Loc) (ls : Array Slot), lp_WH_settle_2 xt_23 K n x3 x4 x5 h6 → ah_m h0 h6 → ah_W G s.heap h6 H locs → lv_has ls 3 [(0, .ref x3), (1, .int x4), (2, .int x5)] → W p l e rm_WH_settle s m args below meth c H locs cells slots (MQ below (va_Qv (fun h9 => K h9 ∧ ah_m h0 h9) (ah_B G) (fun q => G.2.2 ≤ q)) args s 0 0 (fun q => G.2.2 ≤ q)) (F0 m 2 ls []) := by
  obtain ⟨hx, hb, hr, hml, hown, hts, hlk, hK, hX, hout, hin, hst⟩ := id C
  have hw : ∀ {w9 : Cond}, w9 ∈ zx_T → w9.before args s = true := fun h9 => hts _ (List.mem_cons_of_mem _ h9)
  intro n
  induction n with
  | zero =>
    intro x3 x4 x5 h6 H locs ls w
    exact absurd w (by intro z9; exact z9)
  | succ n ih =>
    intro x3 x4 x5 h6 H locs ls w hm hW hl
    unfold lp_WH_settle_2 at w
    refine lv_iload_n hx hb d_WH_settle_2 rfl (lv_at hl 2 rfl) ?_
    refine lv_aload_n hx hb d_WH_settle_3 rfl (lv_at hl 0 rfl) ?_
    obtain ⟨t7, w⟩ := w
    refine hb_get (ci := 2) (C := "BigDesk$Whole") (T := T_WH) (N := 3) hx hb hts (fun w9 h9 => List.mem_cons_of_mem _ (u_WH w9 h9)) hown hK hW t7 rfl (by decide) 1 (by decide) (hw wd_37) (fun _ h9 => h9) (q := (0, 0)) rfl (v := .int (ah_I h6 0 x3)) rfl d_WH_settle_4 ?_
    refine lv_icmp_ge (tgt := 23) hx hb d_WH_settle_7 (by decide) (fun c8 => ?_) (fun c8 => ?_)
    · have w := w.1 c8
      exact hc_xt_23 x3 x4 h6 _ _ _ w hm hW (lv_sub hl [0, 1] rfl)
    · have w := w.2 c8
      refine lv_aload_n hx hb d_WH_settle_10 rfl (lv_at hl 0 rfl) ?_
      obtain ⟨q9, e10, w⟩ := w
      refine hb_get (ci := 2) (C := "BigDesk$Whole") (T := T_WH) (N := 3) hx hb hts (fun w9 h9 => List.mem_cons_of_mem _ (u_WH w9 h9)) hown hK hW t7 rfl (by decide) 0 (by decide) (hw wd_33) (fun _ h9 => h9) (q := (2, 5)) rfl (v := .ref q9) (ah_f_R e10) d_WH_settle_11 ?_
      refine lv_iload_n hx hb d_WH_settle_14 rfl (lv_at hl 2 rfl) ?_
      refine lv_lconst (v := 0) hx hb d_WH_settle_15 (by decide) ?_
      obtain ⟨t11, w⟩ := w
      obtain ⟨i12, w⟩ := w
      refine hb_last hx hb hK hW t11 (by decide) (by decide) 2 rfl i12 d_WH_settle_16 (fun H locs h13 eh13 hW => ?_)
      have w := w h13 eh13
      have mm14 : ah_m h6 h13 := ah_m.rf.st (by rw [eh13]; rfl) (by rw [eh13]; rfl)
      have hm := hm.tr mm14
      have t15 := mm14.tg t7 (by decide)
      have t16 := mm14.tg t11 (by decide)
      obtain ⟨v17, ev17⟩ : ∃ y9 : Int32, y9 = x5 + 1 := ⟨_, rfl⟩
      have w := w v17 ev17
      refine lv_iinc (v := v17) (lv' := [(2, .int v17), (0, .ref x3), (1, .int x4)]) hx hb d_WH_settle_17 hl (k := 2) rfl (by rw [ev17]; rfl) (by decide) rfl (fun ls hl => ?_)
      refine lv_goto (tgt := 2) hx hb d_WH_settle_20 (by decide) ?_
      exact ih x3 x4 v17 h13 _ _ _ w hm hW (lv_sub hl [1, 2, 0] rfl)
set_option maxHeartbeats 4000000 in
set_option maxRecDepth 100000 in
theorem tl_WH_settle_28 {p : Program} {l : Launch} {e : Env} {s : State} {m : MethodId} {args : Array Value} {below : List Frame} {meth : Method} {c : Code} {G : zG} (C : cx_C p l s m args meth c G y_WH_settle b_WH_settle 3 none "BigDesk$Whole") {K : ah_H → Prop} {h0 : ah_H} {cells slots : Nat} (hcl : cells + 0 ≤ 0) (hsl : slots + 0 ≤ 0) {xt_64 : ah_H → Prop} (hc_xt_64 : ∀ (hz : ah_H) (H : Heap) (locs : List Loc) (ls : Array Slot), xt_64 hz → ah_m h0 hz → ah_W G s.heap hz H locs → lv_has ls 3 [] → W p l e rm_WH_settle s m args below meth c H locs cells slots (MQ below (va_Qv (fun h9 => K h9 ∧ ah_m h0 h9) (ah_B G) (fun q => G.2.2 ≤ q)) args s 0 0 (fun q => G.2.2 ≤ q)) (F0 m 64 ls [])) : ∀ (n : Nat) (x25 : Nat) (h26 : ah_H) (H : Heap) (locs : List Loc) (ls : Array Slot), lp_WH_settle_28 xt_64 K n x25 h26 → ah_m h0 h26 → ah_W G s.heap h26 H locs → lv_has ls 3 [(0, .ref x25)] → W p l e rm_WH_settle s m args below meth c H locs cells slots (MQ below (va_Qv (fun h9 => K h9 ∧ ah_m h0 h9) (ah_B G) (fun q => G.2.2 ≤ q)) args s 0 0 (fun q => G.2.2 ≤ q)) (F0 m 28 ls []) := by
  obtain ⟨hx, hb, hr, hml, hown, hts, hlk, hK, hX, hout, hin, hst⟩ := id C
  have hw : ∀ {w9 : Cond}, w9 ∈ zx_T → w9.before args s = true := fun h9 => hts _ (List.mem_cons_of_mem _ h9)
  intro n
  induction n with
  | zero =>
    intro x25 h26 H locs ls w
    exact absurd w (by intro z9; exact z9)
  | succ n ih =>
    intro x25 h26 H locs ls w hm hW hl
    unfold lp_WH_settle_28 at w
    refine lv_aload_n hx hb d_WH_settle_28 rfl (lv_at hl 0 rfl) ?_
    obtain ⟨t27, w⟩ := w
    refine hb_get (ci := 2) (C := "BigDesk$Whole") (T := T_WH) (N := 3) hx hb hts (fun w9 h9 => List.mem_cons_of_mem _ (u_WH w9 h9)) hown hK hW t27 rfl (by decide) 1 (by decide) (hw wd_37) (fun _ h9 => h9) (q := (0, 0)) rfl (v := .int (ah_I h26 0 x25)) rfl d_WH_settle_29 ?_
    refine lv_if_le (tgt := 64) hx hb d_WH_settle_32 (by decide) (fun c28 => ?_) (fun c28 => ?_)
    · have w := w.1 c28
      exact hc_xt_64  h26 _ _ _ w hm hW (lv_sub hl [] rfl)
    · have w := w.2 c28
      refine lv_aload_n hx hb d_WH_settle_35 rfl (lv_at hl 0 rfl) ?_
      obtain ⟨q29, e30, w⟩ := w
      refine hb_get (ci := 2) (C := "BigDesk$Whole") (T := T_WH) (N := 3) hx hb hts (fun w9 h9 => List.mem_cons_of_mem _ (u_WH w9 h9)) hown hK hW t27 rfl (by decide) 0 (by decide) (hw wd_33) (fun _ h9 => h9) (q := (2, 5)) rfl (v := .ref q29) (ah_f_R e30) d_WH_settle_36 ?_
      refine lv_aload_n hx hb d_WH_settle_39 rfl (lv_at hl 0 rfl) ?_
      refine hb_get (ci := 2) (C := "BigDesk$Whole") (T := T_WH) (N := 3) hx hb hts (fun w9 h9 => List.mem_cons_of_mem _ (u_WH w9 h9)) hown hK hW t27 rfl (by decide) 1 (by decide) (hw wd_37) (fun _ h9 => h9) (q := (0, 0)) rfl (v := .int (ah_I h26 0 x25)) rfl d_WH_settle_40 ?_
      refine lv_iconst (v := 1) hx hb d_WH_settle_43 (by decide) ?_
      refine lv_isub hx hb d_WH_settle_44 ?_
      obtain ⟨t31, w⟩ := w
      obtain ⟨i32, w⟩ := w
      refine hb_lald hx hb hK hW t31 (by decide) (by decide) 2 rfl i32 d_WH_settle_45 ?_
      refine lv_lconst (v := 0) hx hb d_WH_settle_46 (by decide) ?_
      refine hb_lcmp_ne (tgt := 64) hx hb d_WH_settle_47 d_WH_settle_48 (by decide) (fun c33 => ?_) (fun c33 => ?_)
      · have w := w.1 c33
        exact hc_xt_64  h26 _ _ _ w hm hW (lv_sub hl [] rfl)
      · have w := w.2 c33
        refine lv_aload_n hx hb d_WH_settle_51 rfl (lv_at hl 0 rfl) ?_
        refine lv_dup hx hb d_WH_settle_52 rfl ?_
        refine hb_get (ci := 2) (C := "BigDesk$Whole") (T := T_WH) (N := 3) hx hb hts (fun w9 h9 => List.mem_cons_of_mem _ (u_WH w9 h9)) hown hK hW t27 rfl (by decide) 1 (by decide) (hw wd_37) (fun _ h9 => h9) (q := (0, 0)) rfl (v := .int (ah_I h26 0 x25)) rfl d_WH_settle_53 ?_
        refine lv_iconst (v := 1) hx hb d_WH_settle_56 (by decide) ?_
        refine lv_isub hx hb d_WH_settle_57 ?_
        refine lv_topi (fun v34 ev34 => ?_)
        have w := w v34 ev34
        refine hb_put (ci := 2) (C := "BigDesk$Whole") (T := T_WH) (N := 3) hx hb hts (fun w9 h9 => List.mem_cons_of_mem _ (u_WH w9 h9)) t_WH o_WH n_WH hown hK hW t27 rfl (by decide) 1 (by decide) (hw wd_37) (fun _ h9 => h9) rfl (ty := t_WH 1) (by decide +kernel) (q := (0, 0)) rfl (by decide) (v := .int v34) rfl rfl (ah_one_I h26 0 x25 v34) d_WH_settle_58 (fun H locs h35 eh35 hW => ?_)
        have w := w h35 eh35
        have mm36 : ah_m h26 h35 := ah_m.rf.st (by rw [eh35]; rfl) (by rw [eh35]; rfl)
        have hm := hm.tr mm36
        have t37 := mm36.tg t27 (by decide)
        have t38 := mm36.tg t31 (by decide)
        refine lv_goto (tgt := 28) hx hb d_WH_settle_61 (by decide) ?_
        exact ih x25 h35 _ _ _ w hm hW (lv_sub hl [0] rfl)
set_option maxHeartbeats 4000000 in
set_option maxRecDepth 100000 in
theorem tb_WH_settle_64 {p : Program} {l : Launch} {e : Env} {s : State} {m : MethodId} {args : Array Value} {below : List Frame} {meth : Method} {c : Code} {G : zG} (C : cx_C p l s m args meth c G y_WH_settle b_WH_settle 3 none "BigDesk$Whole") {K : ah_H → Prop} {h0 : ah_H} {cells slots : Nat} (hcl : cells + 0 ≤ 0) (hsl : slots + 0 ≤ 0)   (h40 : ah_H) (H : Heap) (locs : List Loc) (ls : Array Slot) (w : bk_WH_settle_64 K h40) (hm : ah_m h0 h40) (hW : ah_W G s.heap h40 H locs) (hl : lv_has ls 3 []) : W p l e rm_WH_settle s m args below meth c H locs cells slots (MQ below (va_Qv (fun h9 => K h9 ∧ ah_m h0 h9) (ah_B G) (fun q => G.2.2 ≤ q)) args s 0 0 (fun q => G.2.2 ≤ q)) (F0 m 64 ls []) := by
  unfold bk_WH_settle_64 at w
  obtain ⟨hx, hb, hr, hml, hown, hts, hlk, hK, hX, hout, hin, hst⟩ := id C
  have hw : ∀ {w9 : Cond}, w9 ∈ zx_T → w9.before args s = true := fun h9 => hts _ (List.mem_cons_of_mem _ h9)
  exact hb_vret (K := fun h9 => K h9 ∧ ah_m h0 h9) hx hb hr hlk hK hX hW ⟨w, hm⟩ (by omega) (by omega) d_WH_settle_64
set_option maxHeartbeats 4000000 in
set_option maxRecDepth 100000 in
theorem m_WH_settle {l : Launch} (G : zG) (a1 : Nat) (a2 : Int32) (h0 : ah_H) {K : ah_H → Prop} (hst : l.stackTraces = false) (w : w_WH_settle a1 a2 h0 K) : Met l y_WH_settle (Cond.code y_WH_settle b_WH_settle 3 none :: zx_T) rm_WH_settle (va_Pc [.ref a1, .int a2] (ah_B G h0)) (va_Qv (fun h9 => K h9 ∧ ah_m h0 h9) (ah_B G) (fun q => G.2.2 ≤ q)) 0 0 (fun q => G.2.2 ≤ q) := by
  refine Met.ofW (cc := b_WH_settle) (maxL := 3) (ret := none) (by decide) rfl ?_
  intro p e s m args below meth c s₁ B hml hv
  have hout : ∀ x ∈ c.exceptionTable.toList, False := cx_out B (atoms_spec B.pre _ List.mem_cons_self)
  obtain ⟨rfl, hB⟩ := hv
  have C : cx_C p l s m _ meth c G y_WH_settle b_WH_settle 3 none "BigDesk$Whole" := ⟨B.exec, B.bytes, B.returns, hml, findClass_of_methodNamed B.named, atoms_spec B.pre, B.notSynchronized, hB.2.2.1, hB.2.2.2, hout, fun z9 => (name_of_methodNamed B.named B.method).1.trans z9, hst⟩
  obtain ⟨hx, hb, hr, hml, hown, hts, hlk, hK, hX, hout, hin, hst⟩ := id C
  have hw : ∀ {w9 : Cond}, w9 ∈ zx_T → w9.before _ s = true := fun h9 => hts _ (List.mem_cons_of_mem _ h9)
  have hW : ah_W G s.heap h0 s.heap [] := ⟨hB.1, hB.2.1, va_S.rf⟩
  have hm : ah_m h0 h0 := ah_m.rf
  have hcl : 0 + 0 ≤ 0 := by decide
  have hsl : 0 + 0 ≤ 0 := by decide
  have hl := lv_entry ([.ref a1, .int a2]) (n := 3) (Nat.le_of_ble_eq_true rfl)
  rw [lg_entry_eq]
  generalize (lg_sl ([.ref a1, .int a2]) ++ List.replicate (3 - (lg_sl ([.ref a1, .int a2])).length) Slot.unset).toArray = ls at hl ⊢
  have hl : lv_has ls 3 [(0, .ref a1), (1, .int a2)] := hl
  unfold w_WH_settle at w
  refine lv_iload_n hx hb d_WH_settle_0 rfl (lv_at hl 1 rfl) ?_
  refine lv_istore_n (lv' := [(2, .int a2), (0, .ref a1), (1, .int a2)]) hx hb d_WH_settle_1 rfl hl (by decide) rfl (fun ls hl => ?_)
  obtain ⟨k42, w⟩ := w
  refine tl_WH_settle_2 C hcl hsl (fun x18 x19 h20 H locs ls w hm hW hl => ?_) k42 a1 a2 a2 h0 _ _ _ w hm hW (lv_sub hl [1, 2, 0] rfl)
  · refine lv_aload_n hx hb d_WH_settle_23 rfl (lv_at hl 0 rfl) ?_
    refine lv_iload_n hx hb d_WH_settle_24 rfl (lv_at hl 1 rfl) ?_
    obtain ⟨t21, w⟩ := w
    refine hb_put (ci := 2) (C := "BigDesk$Whole") (T := T_WH) (N := 3) hx hb hts (fun w9 h9 => List.mem_cons_of_mem _ (u_WH w9 h9)) t_WH o_WH n_WH hown hK hW t21 rfl (by decide) 1 (by decide) (hw wd_37) (fun _ h9 => h9) rfl (ty := t_WH 1) (by decide +kernel) (q := (0, 0)) rfl (by decide) (v := .int x19) rfl rfl (ah_one_I h20 0 x18 x19) d_WH_settle_25 (fun H locs h22 eh22 hW => ?_)
    have w := w h22 eh22
    have mm23 : ah_m h20 h22 := ah_m.rf.st (by rw [eh22]; rfl) (by rw [eh22]; rfl)
    have hm := hm.tr mm23
    have t24 := mm23.tg t21 (by decide)
    obtain ⟨k41, w⟩ := w
    refine tl_WH_settle_28 C hcl hsl (fun  h39 H locs ls w hm hW hl => ?_) k41 x18 h22 _ _ _ w hm hW (lv_sub hl [0] rfl)
    · exact tb_WH_settle_64 C (by omega) (by omega)   h39 _ _ _ w hm hW (lv_sub hl [] rfl)
set_option maxHeartbeats 4000000 in
set_option maxRecDepth 100000 in
theorem tb_WH_markSign_17 {p : Program} {l : Launch} {e : Env} {s : State} {m : MethodId} {args : Array Value} {below : List Frame} {meth : Method} {c : Code} {G : zG} (C : cx_C p l s m args meth c G y_WH_markSign b_WH_markSign 2 none "BigDesk$Whole") {K : ah_H → Prop} {h0 : ah_H} {cells slots : Nat} (hcl : cells + 0 ≤ 0) (hsl : slots + 0 ≤ 0)  (s6 : Int32) (s7 : Nat) (h8 : ah_H) (H : Heap) (locs : List Loc) (ls : Array Slot) (w : bk_WH_markSign_17 K s6 s7 h8) (hm : ah_m h0 h8) (hW : ah_W G s.heap h8 H locs) (hl : lv_has ls 2 []) : W p l e rm_WH_markSign s m args below meth c H locs cells slots (MQ below (va_Qv (fun h9 => K h9 ∧ ah_m h0 h9) (ah_B G) (fun q => G.2.2 ≤ q)) args s 0 0 (fun q => G.2.2 ≤ q)) (F0 m 17 ls [.int s6, .ref s7]) := by
  unfold bk_WH_markSign_17 at w
  obtain ⟨hx, hb, hr, hml, hown, hts, hlk, hK, hX, hout, hin, hst⟩ := id C
  have hw : ∀ {w9 : Cond}, w9 ∈ zx_T → w9.before args s = true := fun h9 => hts _ (List.mem_cons_of_mem _ h9)
  obtain ⟨t9, w⟩ := w
  obtain ⟨z10, w⟩ := w
  refine hb_put (ci := 2) (C := "BigDesk$Whole") (T := T_WH) (N := 3) hx hb hts (fun w9 h9 => List.mem_cons_of_mem _ (u_WH w9 h9)) t_WH o_WH n_WH hown hK hW t9 rfl (by decide) 2 (by decide) (hw wd_43) (fun _ h9 => h9) rfl (ty := t_WH 2) (by decide +kernel) (q := (0, 1)) rfl (by decide) (v := .int s6) (zb_n z10) (zb_f z10) (ah_one_I h8 1 s7 s6) d_WH_markSign_17 (fun H locs h11 eh11 hW => ?_)
  have w := w h11 eh11
  have mm12 : ah_m h8 h11 := ah_m.rf.st (by rw [eh11]; rfl) (by rw [eh11]; rfl)
  have hm := hm.tr mm12
  have t13 := mm12.tg t9 (by decide)
  exact hb_vret (K := fun h9 => K h9 ∧ ah_m h0 h9) hx hb hr hlk hK hX hW ⟨w, hm⟩ (by omega) (by omega) d_WH_markSign_20
set_option maxHeartbeats 4000000 in
set_option maxRecDepth 100000 in
theorem tb_WH_markSign_16 {p : Program} {l : Launch} {e : Env} {s : State} {m : MethodId} {args : Array Value} {below : List Frame} {meth : Method} {c : Code} {G : zG} (C : cx_C p l s m args meth c G y_WH_markSign b_WH_markSign 2 none "BigDesk$Whole") {K : ah_H → Prop} {h0 : ah_H} {cells slots : Nat} (hcl : cells + 0 ≤ 0) (hsl : slots + 0 ≤ 0)  (s4 : Nat) (h5 : ah_H) (H : Heap) (locs : List Loc) (ls : Array Slot) (w : bk_WH_markSign_16 K s4 h5) (hm : ah_m h0 h5) (hW : ah_W G s.heap h5 H locs) (hl : lv_has ls 2 []) : W p l e rm_WH_markSign s m args below meth c H locs cells slots (MQ below (va_Qv (fun h9 => K h9 ∧ ah_m h0 h9) (ah_B G) (fun q => G.2.2 ≤ q)) args s 0 0 (fun q => G.2.2 ≤ q)) (F0 m 16 ls [.ref s4]) := by
  unfold bk_WH_markSign_16 at w
  obtain ⟨hx, hb, hr, hml, hown, hts, hlk, hK, hX, hout, hin, hst⟩ := id C
  have hw : ∀ {w9 : Cond}, w9 ∈ zx_T → w9.before args s = true := fun h9 => hts _ (List.mem_cons_of_mem _ h9)
  refine lv_iconst (v := 0) hx hb d_WH_markSign_16 (by decide) ?_
  exact tb_WH_markSign_17 C (by omega) (by omega)  (0 : Int32) s4 h5 _ _ _ w hm hW (lv_sub hl [] rfl)
set_option maxHeartbeats 4000000 in
set_option maxRecDepth 100000 in
theorem m_WH_markSign {l : Launch} (G : zG) (a1 : Nat) (a2 : Int32) (h0 : ah_H) {K : ah_H → Prop} (hst : l.stackTraces = false) (w : w_WH_markSign a1 a2 h0 K) : Met l y_WH_markSign (Cond.code y_WH_markSign b_WH_markSign 2 none :: zx_T) rm_WH_markSign (va_Pc [.ref a1, .int a2] (ah_B G h0)) (va_Qv (fun h9 => K h9 ∧ ah_m h0 h9) (ah_B G) (fun q => G.2.2 ≤ q)) 0 0 (fun q => G.2.2 ≤ q) := by
  refine Met.ofW (cc := b_WH_markSign) (maxL := 2) (ret := none) (by decide) rfl ?_
  intro p e s m args below meth c s₁ B hml hv
  have hout : ∀ x ∈ c.exceptionTable.toList, False := cx_out B (atoms_spec B.pre _ List.mem_cons_self)
  obtain ⟨rfl, hB⟩ := hv
  have C : cx_C p l s m _ meth c G y_WH_markSign b_WH_markSign 2 none "BigDesk$Whole" := ⟨B.exec, B.bytes, B.returns, hml, findClass_of_methodNamed B.named, atoms_spec B.pre, B.notSynchronized, hB.2.2.1, hB.2.2.2, hout, fun z9 => (name_of_methodNamed B.named B.method).1.trans z9, hst⟩
  obtain ⟨hx, hb, hr, hml, hown, hts, hlk, hK, hX, hout, hin, hst⟩ := id C
  have hw : ∀ {w9 : Cond}, w9 ∈ zx_T → w9.before _ s = true := fun h9 => hts _ (List.mem_cons_of_mem _ h9)
  have hW : ah_W G s.heap h0 s.heap [] := ⟨hB.1, hB.2.1, va_S.rf⟩
  have hm : ah_m h0 h0 := ah_m.rf
  have hcl : 0 + 0 ≤ 0 := by decide
  have hsl : 0 + 0 ≤ 0 := by decide
  have hl := lv_entry ([.ref a1, .int a2]) (n := 2) (Nat.le_of_ble_eq_true rfl)
  rw [lg_entry_eq]
  generalize (lg_sl ([.ref a1, .int a2]) ++ List.replicate (2 - (lg_sl ([.ref a1, .int a2])).length) Slot.unset).toArray = ls at hl ⊢
  have hl : lv_has ls 2 [(0, .ref a1), (1, .int a2)] := hl
  unfold w_WH_markSign at w
  refine lv_aload_n hx hb d_WH_markSign_0 rfl (lv_at hl 0 rfl) ?_
  refine lv_iload_n hx hb d_WH_markSign_1 rfl (lv_at hl 1 rfl) ?_
  refine lv_if_eq (tgt := 16) hx hb d_WH_markSign_2 (by decide) (fun c3 => ?_) (fun c3 => ?_)
  · have w := w.1 c3
    exact tb_WH_markSign_16 C (by omega) (by omega)  a1 h0 _ _ _ w hm hW (lv_sub hl [] rfl)
  · have w := w.2 c3
    refine lv_aload_n hx hb d_WH_markSign_5 rfl (lv_at hl 0 rfl) ?_
    obtain ⟨t14, w⟩ := w
    refine hb_get (ci := 2) (C := "BigDesk$Whole") (T := T_WH) (N := 3) hx hb hts (fun w9 h9 => List.mem_cons_of_mem _ (u_WH w9 h9)) hown hK hW t14 rfl (by decide) 1 (by decide) (hw wd_37) (fun _ h9 => h9) (q := (0, 0)) rfl (v := .int (ah_I h0 0 a1)) rfl d_WH_markSign_6 ?_
    refine lv_if_le (tgt := 16) hx hb d_WH_markSign_9 (by decide) (fun c15 => ?_) (fun c15 => ?_)
    · have w := w.1 c15
      exact tb_WH_markSign_16 C (by omega) (by omega)  a1 h0 _ _ _ w hm hW (lv_sub hl [] rfl)
    · have w := w.2 c15
      refine lv_iconst (v := 1) hx hb d_WH_markSign_12 (by decide) ?_
      refine lv_goto (tgt := 17) hx hb d_WH_markSign_13 (by decide) ?_
      exact tb_WH_markSign_17 C (by omega) (by omega)  (1 : Int32) a1 h0 _ _ _ w hm hW (lv_sub hl [] rfl)
set_option maxHeartbeats 4000000 in
set_option maxRecDepth 100000 in
theorem m_WH_clear {l : Launch} (G : zG) (a1 : Nat) (h0 : ah_H) {K : ah_H → Prop} (hst : l.stackTraces = false) (w : w_WH_clear a1 h0 K) : Met l y_WH_clear (Cond.code y_WH_clear b_WH_clear 1 none :: zx_T) rm_WH_clear (va_Pc [.ref a1] (ah_B G h0)) (va_Qv (fun h9 => K h9 ∧ ah_m h0 h9) (ah_B G) (fun q => G.2.2 ≤ q)) 0 0 (fun q => G.2.2 ≤ q) := by
  refine Met.ofW (cc := b_WH_clear) (maxL := 1) (ret := none) (by decide) rfl ?_
  intro p e s m args below meth c s₁ B hml hv
  have hout : ∀ x ∈ c.exceptionTable.toList, False := cx_out B (atoms_spec B.pre _ List.mem_cons_self)
  obtain ⟨rfl, hB⟩ := hv
  have C : cx_C p l s m _ meth c G y_WH_clear b_WH_clear 1 none "BigDesk$Whole" := ⟨B.exec, B.bytes, B.returns, hml, findClass_of_methodNamed B.named, atoms_spec B.pre, B.notSynchronized, hB.2.2.1, hB.2.2.2, hout, fun z9 => (name_of_methodNamed B.named B.method).1.trans z9, hst⟩
  obtain ⟨hx, hb, hr, hml, hown, hts, hlk, hK, hX, hout, hin, hst⟩ := id C
  have hw : ∀ {w9 : Cond}, w9 ∈ zx_T → w9.before _ s = true := fun h9 => hts _ (List.mem_cons_of_mem _ h9)
  have hW : ah_W G s.heap h0 s.heap [] := ⟨hB.1, hB.2.1, va_S.rf⟩
  have hm : ah_m h0 h0 := ah_m.rf
  have hcl : 0 + 0 ≤ 0 := by decide
  have hsl : 0 + 0 ≤ 0 := by decide
  have hl := lv_entry ([.ref a1]) (n := 1) (Nat.le_of_ble_eq_true rfl)
  rw [lg_entry_eq]
  generalize (lg_sl ([.ref a1]) ++ List.replicate (1 - (lg_sl ([.ref a1])).length) Slot.unset).toArray = ls at hl ⊢
  have hl : lv_has ls 1 [(0, .ref a1)] := hl
  unfold w_WH_clear at w
  refine lv_aload_n hx hb d_WH_clear_0 rfl (lv_at hl 0 rfl) ?_
  refine lv_iconst (v := 0) hx hb d_WH_clear_1 (by decide) ?_
  obtain ⟨t2, w⟩ := w
  refine hb_callv (va_runV (As := [.int (0 : Int32)]) (rest := []) ⟨hx, hb, hml, hown, hts⟩ (m_WH_settle G a1 (0 : Int32) h0 hst w) (cwV 1 hts (zx_gV wd_218 wd_219 wd_220 wd_2 wd_221) rfl rfl rfl (by decide +kernel) ⟨Nat.le_of_ble_eq_true rfl, Nat.le_of_ble_eq_true rfl⟩) (hb_preV hK hX hW t2 (by decide) rfl) rfl rfl hl.1 rfl (lv_room (Nat.le_of_ble_eq_true rfl)) d_WH_clear_2 ⟨(by show _ ≤ 0; omega), (by show _ ≤ 0; omega)⟩) hW (fun h3 H locs hk hW => ?_)
  obtain ⟨w, mm4⟩ := hk
  have w := w mm4
  have hm := hm.tr mm4
  have t5 := mm4.tg t2 (by decide)
  refine lv_aload_n hx hb d_WH_clear_5 rfl (lv_at hl 0 rfl) ?_
  refine lv_iconst (v := 0) hx hb d_WH_clear_6 (by decide) ?_
  refine hb_put (ci := 2) (C := "BigDesk$Whole") (T := T_WH) (N := 3) hx hb hts (fun w9 h9 => List.mem_cons_of_mem _ (u_WH w9 h9)) t_WH o_WH n_WH hown hK hW t5 rfl (by decide) 2 (by decide) (hw wd_43) (fun _ h9 => h9) rfl (ty := t_WH 2) (by decide +kernel) (q := (0, 1)) rfl (by decide) (v := .int (0 : Int32)) rfl rfl (ah_one_I h3 1 a1 (0 : Int32)) d_WH_clear_7 (fun H locs h6 eh6 hW => ?_)
  have w := w h6 eh6
  have mm7 : ah_m h3 h6 := ah_m.rf.st (by rw [eh6]; rfl) (by rw [eh6]; rfl)
  have hm := hm.tr mm7
  have t8 := mm7.tg t5 (by decide)
  exact hb_vret (K := fun h9 => K h9 ∧ ah_m h0 h9) hx hb hr hlk hK hX hW ⟨w, hm⟩ (by omega) (by omega) d_WH_clear_10
