section BD5
variable {h h' h'' : ah_H} {x : Nat} {W q : Nat → Nat} {C : Nat × Nat × Nat × Nat × Nat} {z z' : Nat → Int} {tl wl : Nat} {f : Nat → Nat} {g : Nat → Int32} {I : Nat → Prop}
theorem dk_io (Q : dk_Q h x W q C) (H : dk_W h W q C z) (eT : ah_T h' = ah_T h) (eN : ah_N h' = ah_N h) (eR : ah_R h' = ah_R h) (ebR : ah_bR h' = ah_bR h) (ebL : ah_bL h' = ah_bL h) (eI : ∀ k a, a ≠ x → ah_I h' k a = ah_I h k a) : dk_Q h' x W q C ∧ dk_W h' W q C z := by
  have nx : ∀ i, i < 19 → W i ≠ x := fun i hi e => by
    have h1 := (Q.2.2.2.2.2.2.2.2.1 i hi).1
    rw [e, Q.1] at h1
    exact absurd h1 (by decide)
  have ewh : ∀ i, i < 19 → ∀ n b d, wh_S h (W i) (q i) n b d → wh_S h' (W i) (q i) n b d := fun i hi n b d Hw => by
    unfold wh_S wq_S at *
    rw [eT, eN, eR, ebL, eI 0 _ (nx i hi), eI 1 _ (nx i hi)]; exact Hw
  refine ⟨?_, ?_⟩
  · unfold dk_Q dv_S wq_S at *
    rw [eT, eN, eR, ebR]; exact Q
  · obtain ⟨c, w2, w3⟩ := H
    refine ⟨?_, fun i hi => ⟨?_, (w2 i hi).2⟩, fun i a b => ?_⟩
    · unfold cd_S at *
      rw [eT, eR]; exact c
    · obtain ⟨n, b, d, H1, H2⟩ := (w2 i hi).1
      exact ⟨n, b, d, ewh i (by omega) n b d H1, H2⟩
    · obtain ⟨n, b', d, H1, H2⟩ := w3 i a b
      exact ⟨n, b', d, ewh i b n b' d H1, H2⟩
/-- a byte of a long -/
def bt_n (v : Int64) (i : Nat) : Nat := uN v / 2 ^ (8 * i) % 256
theorem i8_k (n : Nat) : (nI n).toInt8 = (nI (n % 256)).toInt8 := by
  show (Int32.ofNat n).toInt8 = (Int32.ofNat (n % 256)).toInt8
  rw [Int32.toInt8_ofNat', Int32.toInt8_ofNat']
  apply Int8.toBitVec_inj.mp
  apply BitVec.eq_of_toNat_eq
  show (BitVec.ofNat 8 n).toNat = (BitVec.ofNat 8 (n % 256)).toNat
  rw [BitVec.toNat_ofNat, BitVec.toNat_ofNat]
  omega
theorem uN_lN {n : Nat} (h : n < 18446744073709551616) : uN (lN n) = n := lN_nat h
theorem bt_c (v : Int64) {i : Nat} (hi : i < 8) : (((v.toUInt64 >>> (((8 : Int32) * nI i).toInt64.toUInt64 &&& Int64.toUInt64 63)).toInt64).toInt32).toInt8.toInt32 = by_n (bt_n v i) := by
  have e1 : (8 : Int32) * nI i = nI (8 * i) := pk_mul 8 i
  rw [e1]
  obtain ⟨n, hn, en⟩ := wb_of ((v.toUInt64 >>> ((nI (8 * i)).toInt64.toUInt64 &&& Int64.toUInt64 63)).toInt64)
  have e2 := uN_sk v (k := 8 * i) (by omega)
  rw [en] at e2 ⊢
  rw [uN_lN hn] at e2
  rw [lN_i, i8_k]
  unfold by_n bt_n
  rw [← e2]
def fd_n (f : Nat → Nat) (tl : Nat) (v : Int64) (n : Nat) : Nat → Nat := fun k => if tl ≤ k ∧ k < tl + n then bt_n v (k - tl) else f k
theorem s_fe_a (D : dk_S h x W q C z tl f wl g) {v : Int64} {n : Nat} (hn : n ≤ 8) (hr : tl + n ≤ 2600) {xt : Nat → Int32 → ah_H → Prop} {K : Int32 → ah_H → Prop} {Ex : String → ah_H → Prop}
    (hx : ∀ F : Nat → Int32, (∀ k, k < 2600 → F k = by_n (fd_n f tl v n k)) → xt x (nI n) (ah_cI h C.2.2.2.1 F)) :
    ∀ (k i : Nat) (F : Nat → Int32), n = i + k → (∀ k, k < 2600 → F k = by_n (fd_n f tl v i k)) → ∃ m, lp_BD_feed_46 xt K Ex m x (nI n) v (nI i) (ah_cI h C.2.2.2.1 F) := by
  have Q := D.1
  intro k
  induction k with
  | zero =>
    intro i F hi hF
    have e0 : i = n := by omega
    subst e0
    refine ⟨0 + 1, ?_⟩
    rw [lp_BD_feed_46]
    exact ⟨fun _ => hx F hF, fun hc => absurd (nI_le (Nat.le_refl _) (by omega)) hc⟩
  | succ k ih =>
    intro i F hi hF
    obtain ⟨m, hm⟩ := ih (i + 1) (upd F (tl + i) (by_n (bt_n v i))) (by omega) (fun k hk => by
      by_cases e : k = tl + i
      · rw [e, pk_us]
        unfold fd_n
        rw [if_pos (by omega), show tl + i - tl = i by omega]
      · rw [pk_un e, hF k hk]
        unfold fd_n
        by_cases e2 : tl ≤ k ∧ k < tl + i
        · rw [if_pos e2, if_pos (by omega)]
        · rw [if_neg e2, if_neg (by omega)])
    refine ⟨m + 1, ?_⟩
    have e1 : ah_I (ah_cI h C.2.2.2.1 F) 2 x = nI tl := by rw [cI_I]; exact D.2.2.1.1
    rw [lp_BD_feed_46]
    refine ⟨fun hc => absurd hc (nI_ge (by omega) (by omega)), fun _ => ⟨by rw [cI_T]; exact Q.1, C.2.2.2.1, by rw [cI_R]; exact Q.2.1.2.2.2.2.2.1, fun v18 e18 => ⟨by rw [cI_T]; exact Q.2.2.2.2.2.1.1, ?_, fun h21 e21 v25 e25 => ?_⟩⟩⟩
    · rw [e1, nI_add, cI_N, Q.2.2.2.2.2.1.2]
      exact vp_in_nI (by omega) (by decide)
    · rw [bt_c v (by omega)] at e18
      rw [e18, e1, nI_add, nI_clamp (by omega), show vp_nar .byte (by_n (bt_n v i)) = by_n (bt_n v i) from pk_vb _, cI_bI, va_up_self, cI_cI] at e21
      rw [e21, e25, nI_1]
      exact hm
theorem dk_tape (D : dk_S h x W q C z tl f wl g) {F : Nat → Int32} {f' : Nat → Nat} {tl' : Nat} (h1 : tl' ≤ 2600) (h2 : ∀ k, f' k < 256) (h3 : ∀ k, k < 2600 → F k = by_n (f' k)) : dk_S (ah_sI (ah_cI h C.2.2.2.1 F) 2 x (nI tl')) x W q C z tl' f' wl g ∧ fx_S h (ah_sI (ah_cI h C.2.2.2.1 F) 2 x (nI tl')) := by
  have Q := D.1
  have eI : ah_I (ah_sI (ah_cI h C.2.2.2.1 F) 2 x (nI tl')) = ah_u2 (ah_I h) 2 x (nI tl') := by rw [sI_I, cI_I]
  have eb : ah_bI (ah_sI (ah_cI h C.2.2.2.1 F) 2 x (nI tl')) = va_up (ah_bI h) C.2.2.2.1 F := by rw [sI_bI, cI_bI]
  obtain ⟨Q', W'⟩ := dk_io (h' := ah_sI (ah_cI h C.2.2.2.1 F) 2 x (nI tl')) Q D.2.1 (by rw [sI_T, cI_T]) (by rw [sI_N, cI_N]) (by rw [sI_R, cI_R]) (by rw [sI_bR, cI_bR]) (by rw [sI_bL, cI_bL]) (fun k a ha => by rw [eI]; exact u2_a _ _ ha)
  refine ⟨⟨Q', W', ⟨by rw [eI]; exact u2_s _ _ _ _, h1, h2, fun k hk => by rw [eb, va_up_self]; exact h3 k hk⟩, ⟨by rw [eI, u2_k _ _ (by decide)]; exact D.2.2.2.1, D.2.2.2.2.1, fun i hi => by rw [eb, va_up_ne _ _ (Ne.symm Q.2.2.2.2.2.2.2.1)]; exact D.2.2.2.2.2 i hi⟩⟩, by rw [sI_T, cI_T], by rw [sI_N, cI_N], fun a ha => ?_, fun k a ha => ⟨?_, by rw [sI_R, cI_R]⟩⟩
  · rw [eb, va_up_ne]
    intro e
    rw [e, Q.2.2.2.2.2.1.1] at ha
    exact absurd ha (by decide)
  · rw [eI, u2_a]
    intro e
    rw [e, Q.1] at ha
    exact absurd ha (by decide)
/-- feed(n, v) -/
theorem c_feed (D : dk_S h x W q C z tl f wl g) {n : Int32} {v : Int64} {K : Int32 → ah_H → Prop} {Ex : String → ah_H → Prop} (h0 : 1 ≤ rn_n 8 n → rn_n 8 n ≤ 8 → tl + rn_n 8 n ≤ 2600 → ∀ h', dk_S h' x W q C z (tl + rn_n 8 n) (fd_n f tl v (rn_n 8 n)) wl g → fx_S h h' → K (nI (tl + rn_n 8 n)) h') (h1 : ¬ (1 ≤ rn_n 8 n ∧ rn_n 8 n ≤ 8) → Ex "java/lang/IllegalArgumentException" h) (h2 : 1 ≤ rn_n 8 n → rn_n 8 n ≤ 8 → ¬ tl + rn_n 8 n ≤ 2600 → Ex "java/lang/IllegalStateException" h) : w_BD_feed x n v h K Ex := by
  have Q := D.1
  have ht := D.2.2.1.2.1
  by_cases hv : 1 ≤ rn_n 8 n ∧ rn_n 8 n ≤ 8
  · have en := rn_ok (by decide) hv.2
    obtain ⟨N, hN⟩ : ∃ N, N = rn_n 8 n := ⟨_, rfl⟩
    rw [← hN] at hv en h0 h2
    rw [en]
    refine ⟨fun hc => absurd hc (nI_nlt (b := 1) hv.1 (by omega)), fun _ => ⟨fun _ => ⟨Q.1, fun hc => ?_, fun hc => ?_⟩, fun hc => absurd (nI_le (b := 8) hv.2 (by decide)) hc⟩⟩
    · rw [D.2.2.1.1, nI_add] at hc
      have hr := (nI_leI (b := 2600) (by omega) (by decide)).mp hc
      have key := s_fe_a (v := v) (K := K) (Ex := Ex) (xt := fun (x26 : Nat) (x27 : Int32) h28 => ah_T h28 x26 = 4 ∧ ∀ v30 : Int32, v30 = (ah_I h28 2 x26) + x27 → ∀ h31 : ah_H, h31 = ah_sI h28 2 x26 v30 → K (ah_I h31 2 x26) h31) D hv.2 hr (fun F hF => by
        refine ⟨by rw [cI_T]; exact Q.1, fun v30 e30 h31 e31 => ?_⟩
        rw [cI_I, D.2.2.1.1, nI_add] at e30
        rw [e30] at e31
        rw [e31, sI_I, u2_s]
        have hf : ∀ k, fd_n f tl v N k < 256 := fun k => by
          unfold fd_n
          split
          · exact Nat.mod_lt _ (by decide)
          · exact D.2.2.1.2.2.1 k
        obtain ⟨d1, d2⟩ := dk_tape D (F := F) hr hf hF
        exact h0 hv.1 hv.2 hr _ d1 d2) N 0 (ah_bI h C.2.2.2.1) (by omega) (fun k hk => by
        rw [D.2.2.1.2.2.2 k hk]
        unfold fd_n
        rw [if_neg (by omega)])
      rw [cI_id] at key
      exact key
    · rw [D.2.2.1.1, nI_add] at hc
      exact h2 hv.1 hv.2 (fun y => hc ((nI_leI (b := 2600) (by omega) (by decide)).mpr y))
  · refine ⟨fun _ => h1 hv, fun hc => ⟨fun hd => absurd ?_ hv, fun _ => h1 hv⟩⟩
    have h3 : ¬ n < (1 : Int32) := hc
    have h4 : rn_n 8 n ≤ 8 := (rn_lt (by decide)).mpr ⟨Int32.le_of_lt (Int32.lt_of_lt_of_le (by decide : (0 : Int32) < 1) (Int32.not_lt.mp hc)), hd⟩
    refine ⟨?_, h4⟩
    have en := rn_ok (by decide) h4
    rw [en] at h3
    exact Nat.le_of_not_lt (fun y => h3 (nI_lt (b := 1) y (by decide)))
/-- read(r) -/
theorem lim_2467 : lim_N < 10 ^ 2467 := by rw [lim_eq]; decide +kernel
theorem tx_Vge {s : Nat} : ∀ {k : Nat}, 1 ≤ k → (∀ i, s ≤ i → i < s + k → tx_D f i) → f s ≠ 48 → 10 ^ (k - 1) ≤ tx_V f s k
  | 0, h, _, _ => absurd h (by decide)
  | 1, _, H, h0 => by
    have := H s (by omega) (by omega)
    unfold tx_D at this
    show 10 ^ 0 ≤ 0 * 10 + (f (s + 0) - 48)
    rw [Nat.pow_zero, Nat.add_zero]; omega
  | k + 2, _, H, h0 => by
    have h1 := tx_Vge (k := k + 1) (by omega) (fun i a b => H i a (by omega)) h0
    have e1 : tx_V f s (k + 2) = tx_V f s (k + 1) * 10 + (f (s + (k + 1)) - 48) := rfl
    rw [e1, show k + 2 - 1 = (k + 1 - 1) + 1 by omega, Nat.pow_succ]
    omega
def rd_G (f : Nat → Nat) (tl : Nat) : Prop := tx_G f tl ∧ tx_V f (tx_s f) (tl - tx_s f) < lim_N
theorem rd_2467 (H : rd_G f tl) : tl - tx_s f ≤ 2467 := by
  obtain ⟨⟨g1, g2, g3, g4⟩, hv⟩ := H
  apply Nat.le_of_not_lt
  intro hn
  have h0 : f (tx_s f) ≠ 48 := fun e => g3 ⟨e, by omega⟩
  have h1 := tx_Vge (f := f) (s := tx_s f) (k := tl - tx_s f) (by omega) (fun i a b => g4 i a (by omega)) h0
  have h2 : (10 : Nat) ^ 2467 ≤ 10 ^ (tl - tx_s f - 1) := Nat.pow_le_pow_right (by decide) (by omega)
  exact absurd (Nat.lt_of_le_of_lt (Nat.le_trans h2 h1) (Nat.lt_trans hv lim_2467)) (Nat.lt_irrefl _)
theorem c_read (D : dk_S h x W q C z tl f wl g) {r : Int32} {K : Int32 → ah_H → Prop} {Ex : String → ah_H → Prop} (h1 : ¬ rk_n r < 12 → Ex "java/lang/IllegalArgumentException" h) (k0 : rk_n r < 12 → ¬ rd_G f tl → ∀ h', dk_S h' x W q C z 0 f wl g → fx_S h h' → K 0 h') (k1 : rk_n r < 12 → rd_G f tl → ∀ h', dk_S h' x W q C (zu_n z (rk_n r) (sg_Z (decide (tx_s f = 1)) (tx_V f (tx_s f) (tl - tx_s f)))) 0 f wl g → fx_S h h' → K 1 h') : w_BD_read x r h K Ex := by
  have Q := D.1
  have ht := D.2.2.1.2.1
  refine ⟨Q.1, s_register Q (fun hr _ v8 e8 h9 e9 => ?_) (fun hr _ => h1 hr)⟩
  rw [D.2.2.1.1] at e8
  obtain ⟨D9, F9⟩ := dk_tape D (F := ah_bI h C.2.2.2.1) (f' := f) (tl' := 0) (by decide) D.2.2.1.2.2.1 D.2.2.1.2.2.2
  rw [cI_id, nI_0, ← e9] at D9 F9
  have Q9 := D9.1
  obtain ⟨nm, gm, dm, M1, M2⟩ := D9.2.1.2.2 12 (by decide) (by decide)
  obtain ⟨nr, gr, dr, R1, R2, _⟩ := (D9.2.1.2.1 _ hr).1
  have hT : tp_S h9 C.2.2.2.1 f := ⟨Q9.2.2.2.2.2.1.1, Q9.2.2.2.2.2.1.2, D9.2.2.1.2.2.1, D9.2.2.1.2.2.2⟩
  have hw : W 12 ≠ C.2.2.2.1 := fun e => by
    have h3 := (Q.2.2.2.2.2.2.2.2.1 12 (by decide)).1
    rw [e, Q.2.2.2.2.2.1.1] at h3
    exact absurd h3 (by decide)
  refine ⟨W 12, Q9.2.1.2.1, C.2.2.2.1, Q9.2.1.2.2.2.2.2.1, ?_⟩
  rw [e8]
  refine s_numberOf hT ht hw M1 M2 (fun hn _ => ⟨fun _ => k0 hr (fun y => hn ⟨y.1, rd_2467 y⟩) h9 D9 F9, fun hc => absurd rfl hc⟩) (fun n' b' d' G hd C' hb' ev _ => ⟨fun hc => absurd hc (by decide), fun _ => ⟨W 12, Q9.2.1.2.1, M1.1.1, ?_⟩⟩)
  obtain ⟨D1, F1⟩ := dk_wd D9 (i := 12) (b := b') (by decide) (by decide) C'
  have hv : dg_v 4294967296 d' n' = tx_V f (tx_s f) (tl - tx_s f) := by
    have := congrArg Int.natAbs ev
    rw [sg_na, sg_na] at this
    exact this
  obtain ⟨c, hc, hbl⟩ := bl_258 C'
  refine s_bits (wh_wd M1.1) C' hbl (fun _ => ⟨fun hl => ?_, fun hl => k0 hr (fun y => hl ?_) _ D1 (fx_tr F9 F1)⟩)
  · have hlim := (bl_lim hbl).mp ((nI_leI (b := 8192) (by omega) (by decide)).mp hl)
    have nR := dk_ne Q (i := rk_n r) (j := 12) (by omega) (by decide) (by omega)
    have R1' : wh_S (wd_S h9 (W 12) (q 12) n' b' d') (W (rk_n r)) (q (rk_n r)) nr gr dr := wh_ot R1 nR.1 nR.2
    refine ⟨W 12, D1.1.2.1.2.1, R1'.1.1, s_become R1' (wh_wd M1.1) (cn_258 R2) (cn_258 C') (fun _ => ?_)⟩
    obtain ⟨D2, F2⟩ := dk_wr D1 hr C' hb' hlim
    rw [ev] at D2
    exact k1 hr ⟨G, by rw [← hv]; exact hlim⟩ _ D2 (fx_tr F9 (fx_tr F1 F2))
  · have hlim := y.2
    rw [← hv] at hlim
    exact (nI_leI (b := 8192) (by omega) (by decide)).mpr ((bl_lim hbl).mpr hlim)
/-- write(a) -/
theorem c_write (D : dk_S h x W q C z tl f wl g) {a : Int32} {K : Int32 → ah_H → Prop} {Ex : String → ah_H → Prop} (h1 : ¬ rk_n a < 12 → Ex "java/lang/IllegalArgumentException" h) (k0 : rk_n a < 12 → ∀ (h' : ah_H) (wl' : Nat) (g' : Nat → Int32), wl' ≤ 2468 → tw_S (decide (z (rk_n a) < 0)) (z (rk_n a)).natAbs wl' g' → dk_S h' x W q C z tl f wl' g' → fx_S h h' → K (nI wl') h') : w_BD_write x a h K Ex := by
  have Q := D.1
  refine ⟨Q.1, W 12, Q.2.1.2.1, s_register Q (fun ha _ => ?_) (fun ha _ => h1 ha)⟩
  obtain ⟨⟨na, ga, da, A1, A2, A3, A4⟩, la⟩ := D.2.1.2.1 _ ha
  obtain ⟨nm, gm, dm, M1, M2⟩ := D.2.1.2.2 12 (by decide) (by decide)
  have ea : (z (rk_n a)).natAbs = dg_v 4294967296 da na := by rw [A4, sg_na]
  have eg : decide (z (rk_n a) < 0) = ga := by
    cases ga
    · rw [A4, sg_f]; exact decide_eq_false (by omega)
    · have hn := A3 rfl
      have : dg_v 4294967296 da na ≠ 0 := fun y => hn ((cn_0 A2).mp y)
      rw [A4, sg_t]; exact decide_eq_true (by omega)
  obtain ⟨D1, F1⟩ := dk_wd D (i := 12) (b := ga) (by decide) (by decide) A2
  have Q1 := D1.1
  refine ⟨M1.1.1, s_become M1 A1 (cn_258 M2) (cn_258 A2) (fun _ => ⟨W 12, Q1.2.1.2.1, C.2.2.2.2, Q1.2.1.2.2.2.2.2.2, s_textOf Q1.2.2.2.2.2.2.1.1 Q1.2.2.2.2.2.2.1.2 (wh_wd M1.1) A2 (by rw [← ea]; exact Nat.lt_trans la lim_2467) (fun n' d' G' len C' hl ht _ h24 e24 => ?_)⟩)⟩
  rw [← ea, ← eg] at ht
  obtain ⟨D2, F2⟩ := dk_wd D1 (i := 12) (b := false) (by decide) (by decide) C'
  have Q2 := D2.1
  unfold tb_S at e24
  have eI : ah_I h24 = ah_u2 (ah_I (wd_S (wd_S h (W 12) (q 12) na ga da) (W 12) (q 12) n' false d')) 3 x (nI len) := by rw [e24, sI_I, cI_I]
  have eb : ah_bI h24 = va_up (ah_bI (wd_S (wd_S h (W 12) (q 12) na ga da) (W 12) (q 12) n' false d')) C.2.2.2.2 G' := by rw [e24, sI_bI, cI_bI]
  obtain ⟨Q', W'⟩ := dk_io (h' := h24) Q2 D2.2.1 (by rw [e24, sI_T, cI_T]) (by rw [e24, sI_N, cI_N]) (by rw [e24, sI_R, cI_R]) (by rw [e24, sI_bR, cI_bR]) (by rw [e24, sI_bL, cI_bL]) (fun k a ha => by rw [eI]; exact u2_a _ _ ha)
  rw [eI, u2_s]
  refine k0 ha h24 len G' hl ht ⟨Q', W', ⟨by rw [eI, u2_k _ _ (by decide)]; exact D2.2.2.1.1, D2.2.2.1.2.1, D2.2.2.1.2.2.1, fun k hk => by rw [eb, va_up_ne _ _ Q.2.2.2.2.2.2.2.1]; exact D2.2.2.1.2.2.2 k hk⟩, ⟨by rw [eI]; exact u2_s _ _ _ _, hl, fun i hi => by rw [eb, va_up_self]⟩⟩ (fx_tr F1 (fx_tr F2 ⟨by rw [e24, sI_T, cI_T], by rw [e24, sI_N, cI_N], fun y hy => ?_, fun k y hy => ⟨?_, by rw [e24, sI_R, cI_R]⟩⟩))
  · rw [eb, va_up_ne]
    intro e
    rw [e, Q2.2.2.2.2.2.2.1.1] at hy
    exact absurd hy (by decide)
  · rw [eI, u2_a]
    intro e
    rw [e, Q2.1] at hy
    exact absurd hy (by decide)
/-- out(k) -/
def ou_v (g : Nat → Int32) (k : Nat) : Nat → Int64
  | 0 => 0
  | i + 1 => ou_v g k i ||| ((g (k + i)).toInt64 <<< (((8 : Int32) * nI i).toInt64 &&& 63))
theorem c_out (D : dk_S h x W q C z tl f wl g) {k : Int32} {K : Int64 → ah_H → Prop} {Ex : String → ah_H → Prop} (h0 : ∀ j, j < wl → k = nI j → K (ou_v g j (min 8 (wl - j))) h) (h1 : ¬ (∃ j, j < wl ∧ k = nI j) → Ex "java/util/NoSuchElementException" h) : w_BD_out x k h K Ex := by
  have Q := D.1
  have hw := D.2.2.2.2.1
  refine ⟨fun hc => h1 (fun ⟨j, hj, e⟩ => ?_), fun hc => ⟨Q.1, fun hl v7 e7 => ?_, fun hl => h1 (fun ⟨j, hj, e⟩ => hl ?_)⟩⟩
  · rw [e] at hc
    exact absurd hc (nI_pos (by omega))
  · obtain ⟨j, hj2, ej⟩ := nI_of hc
    subst ej
    rw [D.2.2.2.1] at hl e7
    have hj := (nI_ltI hj2 (by omega)).mp hl
    have ev : v7 = nI (min 8 (wl - j)) := by
      rw [e7, nI_sub (by omega)]
      show (if nI (wl - j) < nI 8 then nI (wl - j) else nI 8) = _
      by_cases y : wl - j < 8
      · rw [if_pos (nI_lt (b := 8) y (by decide)), Nat.min_eq_right (by omega)]
      · rw [if_neg (nI_nlt (a := wl - j) (b := 8) (by omega) (by omega)), Nat.min_eq_left (by omega)]
    rw [ev]
    obtain ⟨c, hc8, hcw, ec⟩ : ∃ c, c ≤ 8 ∧ j + c ≤ wl ∧ c = min 8 (wl - j) := ⟨_, by omega, by omega, rfl⟩
    have K0 := h0 j hj rfl
    rw [← ec] at K0 ⊢
    have loop : ∀ (k i : Nat), c = i + k → ∃ m, lp_BD_out_39 (fun (x22 : Int64) h23 => K x22 h23) K Ex m x (nI j) (nI c) (ou_v g j i) (nI i) h := by
      intro k
      induction k with
      | zero =>
        intro i hi
        have e0 : i = c := by omega
        subst e0
        refine ⟨0 + 1, ?_⟩
        rw [lp_BD_out_39]
        exact ⟨fun _ => K0, fun hc => absurd (nI_le (Nat.le_refl _) (by omega)) hc⟩
      | succ k ih =>
        intro i hi
        obtain ⟨m, hm⟩ := ih (i + 1) (by omega)
        refine ⟨m + 1, ?_⟩
        rw [lp_BD_out_39]
        refine ⟨fun hc => absurd hc (nI_ge (by omega) (by omega)), fun _ => ⟨Q.1, C.2.2.2.2, Q.2.1.2.2.2.2.2.2, Q.2.2.2.2.2.2.1.1, ?_, fun v20 e20 v21 e21 => ?_⟩⟩
        · rw [nI_add, Q.2.2.2.2.2.2.1.2]; exact vp_in_nI (by omega) (by decide)
        · rw [nI_add, nI_clamp (by omega), D.2.2.2.2.2 (j + i) (by omega)] at e20
          rw [e20, e21, nI_1]
          exact hm
    exact loop c 0 (by omega)
  · rw [e, D.2.2.2.1]
    exact nI_lt hj (by omega)
end BD5
