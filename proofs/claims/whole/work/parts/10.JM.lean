theorem d_JL_bitCount_0 : decode b_JL_bitCount 0 = .ok (.lload_n 0, 1) := by decide +kernel
theorem d_JL_bitCount_1 : decode b_JL_bitCount 1 = .ok (.lload_n 0, 1) := by decide +kernel
theorem d_JL_bitCount_2 : decode b_JL_bitCount 2 = .ok (.iconst 1, 1) := by decide +kernel
theorem d_JL_bitCount_3 : decode b_JL_bitCount 3 = .ok (.lushr, 1) := by decide +kernel
theorem d_JL_bitCount_4 : decode b_JL_bitCount 4 = .ok (.ldc2_w 314, 3) := by decide +kernel
theorem d_JL_bitCount_7 : decode b_JL_bitCount 7 = .ok (.land, 1) := by decide +kernel
theorem d_JL_bitCount_8 : decode b_JL_bitCount 8 = .ok (.lsub, 1) := by decide +kernel
theorem d_JL_bitCount_9 : decode b_JL_bitCount 9 = .ok (.lstore_n 0, 1) := by decide +kernel
theorem d_JL_bitCount_10 : decode b_JL_bitCount 10 = .ok (.lload_n 0, 1) := by decide +kernel
theorem d_JL_bitCount_11 : decode b_JL_bitCount 11 = .ok (.ldc2_w 316, 3) := by decide +kernel
theorem d_JL_bitCount_14 : decode b_JL_bitCount 14 = .ok (.land, 1) := by decide +kernel
theorem d_JL_bitCount_15 : decode b_JL_bitCount 15 = .ok (.lload_n 0, 1) := by decide +kernel
theorem d_JL_bitCount_16 : decode b_JL_bitCount 16 = .ok (.iconst 2, 1) := by decide +kernel
theorem d_JL_bitCount_17 : decode b_JL_bitCount 17 = .ok (.lushr, 1) := by decide +kernel
theorem d_JL_bitCount_18 : decode b_JL_bitCount 18 = .ok (.ldc2_w 316, 3) := by decide +kernel
theorem d_JL_bitCount_21 : decode b_JL_bitCount 21 = .ok (.land, 1) := by decide +kernel
theorem d_JL_bitCount_22 : decode b_JL_bitCount 22 = .ok (.ladd, 1) := by decide +kernel
theorem d_JL_bitCount_23 : decode b_JL_bitCount 23 = .ok (.lstore_n 0, 1) := by decide +kernel
theorem d_JL_bitCount_24 : decode b_JL_bitCount 24 = .ok (.lload_n 0, 1) := by decide +kernel
theorem d_JL_bitCount_25 : decode b_JL_bitCount 25 = .ok (.lload_n 0, 1) := by decide +kernel
theorem d_JL_bitCount_26 : decode b_JL_bitCount 26 = .ok (.iconst 4, 1) := by decide +kernel
theorem d_JL_bitCount_27 : decode b_JL_bitCount 27 = .ok (.lushr, 1) := by decide +kernel
theorem d_JL_bitCount_28 : decode b_JL_bitCount 28 = .ok (.ladd, 1) := by decide +kernel
theorem d_JL_bitCount_29 : decode b_JL_bitCount 29 = .ok (.ldc2_w 318, 3) := by decide +kernel
theorem d_JL_bitCount_32 : decode b_JL_bitCount 32 = .ok (.land, 1) := by decide +kernel
theorem d_JL_bitCount_33 : decode b_JL_bitCount 33 = .ok (.lstore_n 0, 1) := by decide +kernel
theorem d_JL_bitCount_34 : decode b_JL_bitCount 34 = .ok (.lload_n 0, 1) := by decide +kernel
theorem d_JL_bitCount_35 : decode b_JL_bitCount 35 = .ok (.lload_n 0, 1) := by decide +kernel
theorem d_JL_bitCount_36 : decode b_JL_bitCount 36 = .ok (.bipush 8, 2) := by decide +kernel
theorem d_JL_bitCount_38 : decode b_JL_bitCount 38 = .ok (.lushr, 1) := by decide +kernel
theorem d_JL_bitCount_39 : decode b_JL_bitCount 39 = .ok (.ladd, 1) := by decide +kernel
theorem d_JL_bitCount_40 : decode b_JL_bitCount 40 = .ok (.lstore_n 0, 1) := by decide +kernel
theorem d_JL_bitCount_41 : decode b_JL_bitCount 41 = .ok (.lload_n 0, 1) := by decide +kernel
theorem d_JL_bitCount_42 : decode b_JL_bitCount 42 = .ok (.lload_n 0, 1) := by decide +kernel
theorem d_JL_bitCount_43 : decode b_JL_bitCount 43 = .ok (.bipush 16, 2) := by decide +kernel
theorem d_JL_bitCount_45 : decode b_JL_bitCount 45 = .ok (.lushr, 1) := by decide +kernel
theorem d_JL_bitCount_46 : decode b_JL_bitCount 46 = .ok (.ladd, 1) := by decide +kernel
theorem d_JL_bitCount_47 : decode b_JL_bitCount 47 = .ok (.lstore_n 0, 1) := by decide +kernel
theorem d_JL_bitCount_48 : decode b_JL_bitCount 48 = .ok (.lload_n 0, 1) := by decide +kernel
theorem d_JL_bitCount_49 : decode b_JL_bitCount 49 = .ok (.lload_n 0, 1) := by decide +kernel
theorem d_JL_bitCount_50 : decode b_JL_bitCount 50 = .ok (.bipush 32, 2) := by decide +kernel
theorem d_JL_bitCount_52 : decode b_JL_bitCount 52 = .ok (.lushr, 1) := by decide +kernel
theorem d_JL_bitCount_53 : decode b_JL_bitCount 53 = .ok (.ladd, 1) := by decide +kernel
theorem d_JL_bitCount_54 : decode b_JL_bitCount 54 = .ok (.lstore_n 0, 1) := by decide +kernel
theorem d_JL_bitCount_55 : decode b_JL_bitCount 55 = .ok (.lload_n 0, 1) := by decide +kernel
theorem d_JL_bitCount_56 : decode b_JL_bitCount 56 = .ok (.l2i, 1) := by decide +kernel
theorem d_JL_bitCount_57 : decode b_JL_bitCount 57 = .ok (.bipush 127, 2) := by decide +kernel
theorem d_JL_bitCount_59 : decode b_JL_bitCount 59 = .ok (.iand, 1) := by decide +kernel
theorem d_JL_bitCount_60 : decode b_JL_bitCount 60 = .ok (.ireturn, 1) := by decide +kernel
abbrev rm_JL_bitCount : Room := { frames := 0, cells := 0, slots := 0, locals := 0 }
def w_JL_bitCount (a1 : Int64) (h0 : ah_H) (K : Int32 → ah_H → Prop) : Prop :=
  ∀ v2 : Int64, v2 = a1 - (((a1.toUInt64 >>> ((1 : Int32).toInt64.toUInt64 &&& Int64.toUInt64 63)).toInt64) &&& (6148914691236517205 : Int64)) → ∀ v3 : Int64, v3 = (v2 &&& (3689348814741910323 : Int64)) + (((v2.toUInt64 >>> ((2 : Int32).toInt64.toUInt64 &&& Int64.toUInt64 63)).toInt64) &&& (3689348814741910323 : Int64)) → ∀ v4 : Int64, v4 = (v3 + ((v3.toUInt64 >>> ((4 : Int32).toInt64.toUInt64 &&& Int64.toUInt64 63)).toInt64)) &&& (1085102592571150095 : Int64) → ∀ v5 : Int64, v5 = v4 + ((v4.toUInt64 >>> ((8 : Int32).toInt64.toUInt64 &&& Int64.toUInt64 63)).toInt64) → ∀ v6 : Int64, v6 = v5 + ((v5.toUInt64 >>> ((16 : Int32).toInt64.toUInt64 &&& Int64.toUInt64 63)).toInt64) → ∀ v7 : Int64, v7 = v6 + ((v6.toUInt64 >>> ((32 : Int32).toInt64.toUInt64 &&& Int64.toUInt64 63)).toInt64) → K (v7.toInt32 &&& (127 : Int32)) h0
set_option maxHeartbeats 4000000 in
set_option maxRecDepth 100000 in
theorem m_JL_bitCount {l : Launch} (G : zG) (a1 : Int64) (h0 : ah_H) {K : Int32 → ah_H → Prop} (hst : l.stackTraces = false) (w : w_JL_bitCount a1 h0 K) : Met l y_JL_bitCount (Cond.code y_JL_bitCount b_JL_bitCount 2 (some .int) :: zx_T) rm_JL_bitCount (va_Pc [.long a1] (ah_B G h0)) (va_Qi (fun r9 h9 => K r9 h9 ∧ ah_m h0 h9) (ah_B G) (fun q => G.2.2 ≤ q)) 0 0 (fun q => G.2.2 ≤ q) := by
  refine Met.ofW (cc := b_JL_bitCount) (maxL := 2) (ret := (some .int)) (by decide) rfl ?_
  intro p e s m args below meth c s₁ B hml hv
  have htb := cx_out B (atoms_spec B.pre _ List.mem_cons_self)
  obtain ⟨rfl, hB⟩ := hv
  have C : cx_C p l s m _ meth c G y_JL_bitCount b_JL_bitCount 2 (some .int) "java/lang/Long" (Cond.code y_JL_bitCount b_JL_bitCount 2 (some .int) :: zx_T) [] := ⟨B.exec, B.bytes, B.returns, hml, findClass_of_methodNamed B.named, atoms_spec B.pre, cx_hd, B.notSynchronized, hB.2.2.1, hB.2.2.2, htb, fun z9 => (name_of_methodNamed B.named B.method).1.trans z9, hst⟩
  obtain ⟨hx, hb, hr, hml, hown, hts, hT, hlk, hK, hX, htb, hin, hst⟩ := id C
  have hw : ∀ {w9 : Cond}, w9 ∈ zx_T → w9.before _ s = true := fun h9 => hts _ (hT _ h9)
  have hW : ah_W G s.heap h0 s.heap [] := ⟨hB.1, hB.2.1, va_S.rf⟩
  have hm : ah_m h0 h0 := ah_m.rf
  have hcl : 0 + 0 ≤ 0 := by decide
  have hsl : 0 + 0 ≤ 0 := by decide
  have hl := lv_entry ([.long a1]) (n := 2) (Nat.le_of_ble_eq_true rfl)
  rw [lg_entry_eq]
  generalize (lg_sl ([.long a1]) ++ List.replicate (2 - (lg_sl ([.long a1])).length) Slot.unset).toArray = ls at hl ⊢
  have hl : lv_has ls 2 [(0, .long a1)] := hl
  unfold w_JL_bitCount at w
  refine lv_lload_n hx hb d_JL_bitCount_0 rfl (lv_at hl 0 rfl) ?_
  refine lv_lload_n hx hb d_JL_bitCount_1 rfl (lv_at hl 0 rfl) ?_
  refine lv_iconst (v := 1) hx hb d_JL_bitCount_2 (by decide) ?_
  refine lv_lushr hx hb d_JL_bitCount_3 rfl ?_
  refine lv_ldc2 (v := 6148914691236517205) hx hb hown (hw wd_368) d_JL_bitCount_4 ?_
  refine lv_land hx hb d_JL_bitCount_7 ?_
  refine lv_lsub hx hb d_JL_bitCount_8 ?_
  refine lv_topl (fun v2 ev2 => ?_)
  have w := w v2 ev2
  refine lv_lstore_n (lv' := [(0, .long v2)]) hx hb d_JL_bitCount_9 rfl hl (by decide) rfl (fun ls hl => ?_)
  refine lv_lload_n hx hb d_JL_bitCount_10 rfl (lv_at hl 0 rfl) ?_
  refine lv_ldc2 (v := 3689348814741910323) hx hb hown (hw wd_369) d_JL_bitCount_11 ?_
  refine lv_land hx hb d_JL_bitCount_14 ?_
  refine lv_lload_n hx hb d_JL_bitCount_15 rfl (lv_at hl 0 rfl) ?_
  refine lv_iconst (v := 2) hx hb d_JL_bitCount_16 (by decide) ?_
  refine lv_lushr hx hb d_JL_bitCount_17 rfl ?_
  refine lv_ldc2 (v := 3689348814741910323) hx hb hown (hw wd_369) d_JL_bitCount_18 ?_
  refine lv_land hx hb d_JL_bitCount_21 ?_
  refine lv_ladd hx hb d_JL_bitCount_22 ?_
  refine lv_topl (fun v3 ev3 => ?_)
  have w := w v3 ev3
  refine lv_lstore_n (lv' := [(0, .long v3)]) hx hb d_JL_bitCount_23 rfl hl (by decide) rfl (fun ls hl => ?_)
  refine lv_lload_n hx hb d_JL_bitCount_24 rfl (lv_at hl 0 rfl) ?_
  refine lv_lload_n hx hb d_JL_bitCount_25 rfl (lv_at hl 0 rfl) ?_
  refine lv_iconst (v := 4) hx hb d_JL_bitCount_26 (by decide) ?_
  refine lv_lushr hx hb d_JL_bitCount_27 rfl ?_
  refine lv_ladd hx hb d_JL_bitCount_28 ?_
  refine lv_ldc2 (v := 1085102592571150095) hx hb hown (hw wd_370) d_JL_bitCount_29 ?_
  refine lv_land hx hb d_JL_bitCount_32 ?_
  refine lv_topl (fun v4 ev4 => ?_)
  have w := w v4 ev4
  refine lv_lstore_n (lv' := [(0, .long v4)]) hx hb d_JL_bitCount_33 rfl hl (by decide) rfl (fun ls hl => ?_)
  refine lv_lload_n hx hb d_JL_bitCount_34 rfl (lv_at hl 0 rfl) ?_
  refine lv_lload_n hx hb d_JL_bitCount_35 rfl (lv_at hl 0 rfl) ?_
  refine lv_bipush (v := 8) hx hb d_JL_bitCount_36 (by decide) ?_
  refine lv_lushr hx hb d_JL_bitCount_38 rfl ?_
  refine lv_ladd hx hb d_JL_bitCount_39 ?_
  refine lv_topl (fun v5 ev5 => ?_)
  have w := w v5 ev5
  refine lv_lstore_n (lv' := [(0, .long v5)]) hx hb d_JL_bitCount_40 rfl hl (by decide) rfl (fun ls hl => ?_)
  refine lv_lload_n hx hb d_JL_bitCount_41 rfl (lv_at hl 0 rfl) ?_
  refine lv_lload_n hx hb d_JL_bitCount_42 rfl (lv_at hl 0 rfl) ?_
  refine lv_bipush (v := 16) hx hb d_JL_bitCount_43 (by decide) ?_
  refine lv_lushr hx hb d_JL_bitCount_45 rfl ?_
  refine lv_ladd hx hb d_JL_bitCount_46 ?_
  refine lv_topl (fun v6 ev6 => ?_)
  have w := w v6 ev6
  refine lv_lstore_n (lv' := [(0, .long v6)]) hx hb d_JL_bitCount_47 rfl hl (by decide) rfl (fun ls hl => ?_)
  refine lv_lload_n hx hb d_JL_bitCount_48 rfl (lv_at hl 0 rfl) ?_
  refine lv_lload_n hx hb d_JL_bitCount_49 rfl (lv_at hl 0 rfl) ?_
  refine lv_bipush (v := 32) hx hb d_JL_bitCount_50 (by decide) ?_
  refine lv_lushr hx hb d_JL_bitCount_52 rfl ?_
  refine lv_ladd hx hb d_JL_bitCount_53 ?_
  refine lv_topl (fun v7 ev7 => ?_)
  have w := w v7 ev7
  refine lv_lstore_n (lv' := [(0, .long v7)]) hx hb d_JL_bitCount_54 rfl hl (by decide) rfl (fun ls hl => ?_)
  refine lv_lload_n hx hb d_JL_bitCount_55 rfl (lv_at hl 0 rfl) ?_
  refine lv_l2i hx hb d_JL_bitCount_56 rfl ?_
  refine lv_bipush (v := 127) hx hb d_JL_bitCount_57 (by decide) ?_
  refine lv_iand hx hb d_JL_bitCount_59 ?_
  exact hb_iret (K := fun r9 h9 => K r9 h9 ∧ ah_m h0 h9) hx hb hr hlk hK hX hW ⟨w, hm⟩ (by omega) (by omega) d_JL_bitCount_60
