section MP4
variable {h : ah_H} {m : Nat} {A : Nat × Nat × Nat} {D Z : Nat → Nat} {G : Nat → Int32} {B : Nat × Nat} {z : Nat → Int} {tl wl : Nat} {f : Nat → Nat} {g : Nat → Int32}
/-- look(a, what) -/
theorem s_lk_a (Q : mo_Q h m A) {u t i : Nat} (hu : u = 2 ^ t * (2 * i + 1)) {xt : Int32 → ah_H → Prop} {K : Int32 → ah_H → Prop}
    (hx : ∀ (D' Z' : Nat → Nat) (G' : Nat → Int32), mf_S (· = 13) D Z G D' Z' G' → xt (nI t) (mh_S h A D' Z' G')) :
    ∀ (k j : Nat) (D' Z' : Nat → Nat) (G' : Nat → Int32), t = j + k → mf_S (· = 13) D Z G D' Z' G' → mr_D D' Z' 13 (2 ^ k * (2 * i + 1)) → lp_MO_look_107 xt K (k + 1) m (nI j) (mh_S h A D' Z' G') := by
  have par : ∀ (D' Z' : Nat → Nat) (w : Nat), mr_D D' Z' 13 w → rd_n D' Z' 13 0 % 2 = w % 2 := by
    intro D' Z' w M
    by_cases h0 : Z' 13 = 0
    · rw [rd_z (by omega), (mr_0 M).mpr h0]
    · obtain ⟨n, hn⟩ : ∃ n, Z' 13 = n + 1 := ⟨Z' 13 - 1, by omega⟩
      rw [rd_ro (by omega), M.2.2.2, hn, dg_hd]
      omega
  intro k
  induction k with
  | zero =>
    intro j D' Z' G' hj f' M
    have hp := par D' Z' _ M
    have hl := rd_lt M 0
    rw [lp_MO_look_107]
    refine ⟨(mh_Q Q).1, s_mat (r := 13) (k := 0) Q (by decide) (by decide) M.1 (fun _ => ⟨fun _ => ?_, fun hc => ?_⟩)⟩
    · rw [show j = t by omega]; exact hx D' Z' G' f'
    · rw [show nI (rd_n D' Z' 13 0) - nI (rd_n D' Z' 13 0) / (2 : Int32) * (2 : Int32) = nI (rd_n D' Z' 13 0 % 2) from pk_rem (d := 2) (by omega) (by decide) (by decide)] at hc
      rw [hp, Nat.pow_zero, Nat.one_mul] at hc
      exact absurd hc (nI_ne0 (by omega) (by omega))
  | succ k ih =>
    intro j D' Z' G' hj f' M
    have hp := par D' Z' _ M
    have hl := rd_lt M 0
    have ev : 2 ^ (k + 1) * (2 * i + 1) = 2 * (2 ^ k * (2 * i + 1)) := by rw [Nat.pow_succ, Nat.mul_comm (2 ^ k) 2, Nat.mul_assoc]
    rw [lp_MO_look_107]
    refine ⟨(mh_Q Q).1, s_mat (r := 13) (k := 0) Q (by decide) (by decide) M.1 (fun _ => ⟨fun hc => ?_, fun _ => z_parts (r := 13) Q (by decide) M (by decide) (by decide) (fun D2 Z2 G2 f2 M2 _ _ _ v50 e50 => ?_)⟩)⟩
    · rw [show nI (rd_n D' Z' 13 0) - nI (rd_n D' Z' 13 0) / (2 : Int32) * (2 : Int32) = nI (rd_n D' Z' 13 0 % 2) from pk_rem (d := 2) (by omega) (by decide) (by decide)] at hc
      rw [hp, ev, Nat.mul_mod_right] at hc
      exact absurd rfl hc
    · rw [e50, nI_1]
      rw [ev, Nat.mul_div_cancel_left _ (by decide)] at M2
      exact ih (j + 1) D2 Z2 G2 (by omega) (mf_tr f' f2) M2
theorem q_look (S : mo_S h m A B z tl f wl g) {a k : Int32} {K : Int32 → ah_H → Prop} (h1 : ¬ (rk_n a < 12 ∧ rn_n 3 k ≤ 3) → ∀ h', mc_S h m A B z tl f wl g 1 h' → K 0 h') (k0 : rk_n a < 12 → rn_n 3 k = 0 → ∀ h', mc_S h m A B z tl f wl g 0 h' → K (sI_n (z (rk_n a))) h') (k1 : rk_n a < 12 → rn_n 3 k = 1 → ∀ b, bl_N (z (rk_n a)).natAbs b → ∀ h', mc_S h m A B z tl f wl g 0 h' → K (nI b) h') (k2 : rk_n a < 12 → rn_n 3 k = 2 → ∀ b : Bool, (b = true ↔ fl_Z (z (rk_n a))) → ∀ h', mc_S h m A B z tl f wl g 0 h' → K (bi_n b) h') (k3 : rk_n a < 12 → rn_n 3 k = 3 → ∀ n, tz_N (z (rk_n a)).natAbs n → ∀ h', mc_S h m A B z tl f wl g 0 h' → K (nI n) h') : w_MO_look m a k h K := by
  have Q := S.1
  have Q0 : mo_Q (ah_sI h 4 m 0) m A := sI_Q Q
  obtain ⟨D, Z, G, e, R⟩ := S.2.2.1
  have bad : ¬ (rk_n a < 12 ∧ rn_n 3 k ≤ 3) → bk_MO_look_25 K m a k (1 : Int32) m h := fun hn => ⟨Q.1, s_fails1 Q.1 (fun _ => ⟨fun hc => absurd hc (by decide), fun _ => h1 hn _ (mc_c S 1)⟩)⟩
  refine s_isNone (fun ha _ => ⟨fun hc => absurd rfl hc, fun _ => s_in (fun c1 c2 _ => ⟨fun _ => ⟨Q.1, s_fails0 Q.1 (fun _ => ⟨fun _ => ?_, fun hc => absurd rfl hc⟩)⟩, fun hc => absurd hc (by decide)⟩) (fun hn _ => ⟨fun hc => absurd rfl hc, fun _ => bad (fun y => hn ((in_n (by decide)).mpr y.2))⟩)⟩) (fun ha _ => ⟨fun _ => bad (fun y => ha y.1), fun hc => absurd hc (by decide)⟩)
  have hk : rn_n 3 k ≤ 3 := (in_n (by decide)).mp ⟨c1, c2⟩
  have ek := rn_ok (by decide) hk
  have et : k.toInt = (rn_n 3 k : Int) := by
    conv => lhs; rw [ek]
    exact nI_toInt (by omega)
  have H := (R.1 _ ha).1
  have hz := H.1.1
  rw [mo_s0 e, (rk_ok ha).2.2]
  refine ⟨fun hc => ?_, fun hc => ?_, fun hc => ?_, fun hc => ?_⟩
  · have K3 := k3 ha (by omega)
    refine ⟨(mh_Q Q0).1, A.2.1, (mh_Q Q0).2.1.2.1, (mh_Q Q0).2.2.1.2.1, in_z Q0 (by omega), fun hn => ?_, fun hn => ?_⟩
    · rw [gz_k Q0 (by omega)] at hn
      have hu0 : (z (rk_n a)).natAbs ≠ 0 := fun y => hn (by rw [(mr_0 H.1).mp y]; rfl)
      have hl2 : (z (rk_n a)).natAbs < 2 ^ 8192 := by rw [← lim_eq]; exact (R.1 _ ha).2
      obtain ⟨t, i, ht, hti⟩ := tz_ex 8192 _ hl2 hu0
      refine z_copyRow (to := 13) Q0 (by decide) (by omega) H.1 (fun D1 Z1 G1 f1 M1 _ _ => ⟨t + 1, ?_⟩)
      rw [hti] at M1
      exact s_lk_a Q0 hti (fun D2 Z2 G2 f2 => K3 t (Or.inr ⟨i, hti⟩) _ (mc_k S R (Sx := (· = 13)) (mf_tr f1 f2) (fun x hx hy => by omega) 0)) t 0 D1 Z1 G1 (by omega) mf_rf M1
    · rw [gz_k Q0 (by omega)] at hn
      have h0 : Z (rk_n a) = 0 := (nI_eq (b := 0) (by omega) (by decide)).mp hn
      exact K3 0 (Or.inl ⟨(mr_0 H.1).mpr h0, rfl⟩) _ (mc_k S R (Sx := fun _ => False) mf_rf (fun _ _ y => y) 0)
  · have K0 := k0 ha (by omega) _ (mc_k S R (Sx := fun _ => False) mf_rf (fun _ _ y => y) 0)
    refine ⟨(mh_Q Q0).1, A.2.2, (mh_Q Q0).2.1.2.2, (mh_Q Q0).2.2.1.2.2, in_g Q0 (by omega), ?_⟩
    rw [gg_k Q0 (by omega), H.2]
    exact K0
  · have K1 := k1 ha (by omega)
    exact ⟨(mh_Q Q0).1, s_bits_m Q0 ha H.1 (R.1 _ ha).2 (fun b D1 Z1 G1 hb f1 _ => K1 b hb _ (mc_k S R (Sx := (· = 13)) f1 (fun x hx hy => by omega) 0))⟩
  · have K2 := k2 ha (by omega)
    refine ⟨(mh_Q Q0).1, s_isLong_m Q0 (by omega) H (fun b hb _ => ?_)⟩
    have K3 := K2 b hb _ (mc_k S R (Sx := fun _ => False) mf_rf (fun _ _ y => y) 0)
    refine ⟨fun e => ?_, fun e => ?_⟩
    · rw [e] at K3; exact K3
    · cases b
      · exact absurd rfl e
      · exact K3
/-- another state of the same rows -/
theorem mo_A (S : mo_S h m A B z tl f wl g) : ∃ (D Z : Nat → Nat) (G : Nat → Int32), ah_bI h A.1 = iw_n D ∧ ah_bI h A.2.1 = iw_n Z ∧ ah_bI h A.2.2 = G ∧ rg_D D Z G z := by
  obtain ⟨Q, _, ⟨D, Z, G, e, R⟩, _⟩ := S
  refine ⟨D, Z, G, ?_, ?_, ?_, R⟩
  · rw [e]; exact mh_d Q
  · rw [e]; exact mh_z Q
  · rw [e]; exact mh_g
theorem mo_new {h' : ah_H} {tl' wl' : Nat} {f' : Nat → Nat} {g' : Nat → Int32} (S : mo_S h m A B z tl f wl g) (eT : ah_T h' = ah_T h) (eN : ah_N h' = ah_N h) (eR : ∀ k, ah_R h' k m = ah_R h k m) (e1 : ah_bI h' A.1 = ah_bI h A.1) (e2 : ah_bI h' A.2.1 = ah_bI h A.2.1) (e3 : ah_bI h' A.2.2 = ah_bI h A.2.2) (t : ah_I h' 5 m = nI tl' ∧ tl' ≤ 2600 ∧ ∀ k, k < tl' → ah_bI h' B.1 k = nI (f' k)) (w : ah_I h' 6 m = nI wl' ∧ wl' ≤ 2600 ∧ ∀ i, i < wl' → ah_bI h' B.2 i = g' i) : mo_S h' m A B z tl' f' wl' g' := by
  obtain ⟨D, Z, G, a1, a2, a3, R⟩ := mo_A S
  obtain ⟨Q, T, _⟩ := S
  refine ⟨?_, ?_, ⟨D, Z, G, (mh_id (e1.trans a1) (e2.trans a2) (e3.trans a3)).symm, R⟩, t, w⟩
  · unfold mo_Q at *
    rw [eT, eN, eR, eR, eR]; exact Q
  · unfold mo_T at *
    rw [eT, eN, eR, eR]; exact T
/-- feed(n, v) -/
theorem bt_m (v : Int64) {i : Nat} (hi : i < 8) : ((v >>> (((8 : Int32) * nI i).toInt64 &&& 63)) &&& (255 : Int64)).toInt32 = nI (bt_n v i) := by
  have e1 : (8 : Int32) * nI i = nI (8 * i) := pk_mul 8 i
  rw [e1, wb_c (8 * i) (by omega)]
  have e2 : (v >>> lN (8 * i)) &&& (255 : Int64) = lN (bt_n v i) := by
    apply Int64.toBitVec_inj.mp
    apply BitVec.eq_of_toNat_eq
    rw [Int64.toBitVec_and, Int64.toBitVec_shiftRight]
    have e3 : (lN (8 * i)).toBitVec.smod 64 = BitVec.ofNat 64 (8 * i) := by rw [lN_bv]; exact wb_sm _ (by omega)
    rw [e3]
    have e4 : (v.toBitVec.sshiftRight' (BitVec.ofNat 64 (8 * i))) &&& (255 : Int64).toBitVec = (v.toBitVec >>> (8 * i)) &&& BitVec.ofNat 64 255 := by
      apply BitVec.eq_of_getLsbD_eq
      intro j hj
      have e5 : (255 : Int64).toBitVec = BitVec.ofNat 64 255 := by decide
      rw [e5, BitVec.getLsbD_and, BitVec.getLsbD_and]
      by_cases h8 : j < 8
      · congr 1
        rw [BitVec.sshiftRight', BitVec.toNat_ofNat, Nat.mod_eq_of_lt (by omega), BitVec.getLsbD_sshiftRight, BitVec.getLsbD_ushiftRight]
        simp [show ¬ 64 ≤ j by omega, show 8 * i + j < 64 by omega]
      · have : (BitVec.ofNat 64 255).getLsbD j = false := by
          have : ∀ j, j < 64 → 8 ≤ j → (BitVec.ofNat 64 255).getLsbD j = false := by decide
          exact this j hj (by omega)
        rw [this, Bool.and_false, Bool.and_false]
    rw [e4, BitVec.toNat_and, BitVec.toNat_ushiftRight, lN_nat (by have : bt_n v i < 256 := Nat.mod_lt _ (by decide)
                                                                   omega)]
    show _ &&& 255 = _
    rw [Nat.and_two_pow_sub_one_eq_mod _ 8, Nat.shiftRight_eq_div_pow]
    rfl
  rw [e2, lN_i]
theorem s_mf_a (S : mo_S h m A B z tl f wl g) {v : Int64} {n : Nat} (hn : n ≤ 8) (hr : tl + n ≤ 2600) {xt : Nat → Int32 → ah_H → Prop} {K : Int32 → ah_H → Prop}
    (hx : ∀ F : Nat → Int32, (∀ k, k < tl + n → F k = nI (fd_n f tl v n k)) → xt m (nI n) (ah_cI h B.1 F)) :
    ∀ (k i : Nat) (F : Nat → Int32), n = i + k → (∀ k, k < tl + i → F k = nI (fd_n f tl v i k)) → ∃ m', lp_MO_feed_55 xt K m' m (nI n) v (nI i) (ah_cI h B.1 F) := by
  obtain ⟨Q, T, _, H5, _⟩ := S
  intro k
  induction k with
  | zero =>
    intro i F hi hF
    have e0 : i = n := by omega
    subst e0
    refine ⟨0 + 1, ?_⟩
    rw [lp_MO_feed_55]
    exact ⟨fun _ => hx F hF, fun hc => absurd (nI_le (Nat.le_refl _) (by omega)) hc⟩
  | succ k ih =>
    intro i F hi hF
    obtain ⟨m', hm⟩ := ih (i + 1) (upd F (tl + i) (nI (bt_n v i))) (by omega) (fun k hk => by
      by_cases e : k = tl + i
      · rw [e, pk_us]
        unfold fd_n
        rw [if_pos (by omega), show tl + i - tl = i by omega]
      · rw [pk_un e, hF k (by omega)]
        unfold fd_n
        by_cases e2 : tl ≤ k ∧ k < tl + i
        · rw [if_pos e2, if_pos (by omega)]
        · rw [if_neg e2, if_neg (by omega)])
    refine ⟨m' + 1, ?_⟩
    have e1 : ah_I (ah_cI h B.1 F) 5 m = nI tl := by rw [cI_I]; exact H5.1
    rw [lp_MO_feed_55]
    refine ⟨fun hc => absurd hc (nI_ge (by omega) (by omega)), fun _ => ⟨by rw [cI_T]; exact Q.1, B.1, by rw [cI_R]; exact T.1.1, fun v44 e44 => ⟨by rw [cI_T]; exact T.2.1.1, ?_, fun h47 e47 v51 e51 => ?_⟩⟩⟩
    · rw [e1, nI_add, cI_N, T.2.2.1.1]
      exact vp_in_nI (by omega) (by decide)
    · rw [bt_m v (by omega)] at e44
      rw [e44, e1, nI_add, nI_clamp (by omega), cI_bI, va_up_self, cI_cI] at e47
      rw [e47, e51, nI_1]
      exact hm
theorem q_feed (S : mo_S h m A B z tl f wl g) {n : Int32} {v : Int64} {K : Int32 → ah_H → Prop} (h0 : 1 ≤ rn_n 8 n → rn_n 8 n ≤ 8 → tl + rn_n 8 n ≤ 2600 → ∀ h', mo_S h' m A B z (tl + rn_n 8 n) (fd_n f tl v (rn_n 8 n)) wl g → fm_S m h h' → ah_I h' 4 m = 0 → K (nI (tl + rn_n 8 n)) h') (h1 : ¬ (1 ≤ rn_n 8 n ∧ rn_n 8 n ≤ 8) → ∀ h', mc_S h m A B z tl f wl g 1 h' → K 0 h') (h2 : 1 ≤ rn_n 8 n → rn_n 8 n ≤ 8 → ¬ tl + rn_n 8 n ≤ 2600 → ∀ h', mc_S h m A B z tl f wl g 2 h' → K 0 h') : w_MO_feed m n v h K := by
  have Q := S.1
  have ht := S.2.2.2.1.2.1
  have hin : ((1 : Int64) ≤ n.toInt64 ∧ n.toInt64 ≤ 8) ↔ (1 ≤ rn_n 8 n ∧ rn_n 8 n ≤ 8) := by
    have h3 := in_n (hi := 8) (n := n) (by decide)
    constructor
    · intro y
      have h4 := h3.mp ⟨Int64.le_trans (by decide) y.1, y.2⟩
      refine ⟨?_, h4⟩
      have h5 := rn_ok (by decide) h4
      have y1 := y.1
      rw [h5, nI_l (by omega)] at y1
      exact (pk_lLE (a := 1) (by decide) (by omega)).mp y1
    · intro y
      refine ⟨?_, (h3.mpr y.2).2⟩
      have h5 := rn_ok (by decide) y.2
      rw [h5, nI_l (by omega)]
      exact (pk_lLE (a := 1) (by decide) (by omega)).mpr y.1
  refine s_in (fun c1 c2 _ => ⟨fun _ => ⟨Q.1, s_fails0 Q.1 (fun _ => ⟨fun hc => absurd rfl hc, fun _ => ?_⟩)⟩, fun hc => absurd hc (by decide)⟩) (fun hn _ => ⟨fun hc => absurd rfl hc, fun _ => ⟨Q.1, s_fails1 Q.1 (fun _ => ⟨fun _ => h1 (fun y => hn (hin.mpr y)) _ (mc_c S 1), fun hc => absurd hc (by decide)⟩)⟩⟩)
  have hv := hin.mp ⟨c1, c2⟩
  have en := rn_ok (by decide) hv.2
  obtain ⟨N, hN⟩ : ∃ N, N = rn_n 8 n := ⟨_, rfl⟩
  rw [← hN] at hv en h0 h2
  rw [en]
  obtain ⟨F0, S0, I0⟩ := mc_c S 0
  have Q0 := S0.1
  refine ⟨Q0.1, fun hc => ⟨Q0.1, s_fails0 Q0.1 (fun _ => ⟨fun _ => ?_, fun hc => absurd rfl hc⟩)⟩, fun hc => ⟨Q0.1, s_fails1 Q0.1 (fun _ => ⟨fun hc => absurd hc (by decide), fun _ => ?_⟩)⟩⟩
  · rw [S0.2.2.2.1.1, nI_add] at hc
    have hr := (nI_leI (b := 2600) (by omega) (by decide)).mp hc
    rw [sI_sI]
    have key := s_mf_a (v := v) (K := K) (xt := fun (x52 : Nat) (x53 : Int32) h54 => ah_T h54 x52 = 5 ∧ ∀ v56 : Int32, v56 = (ah_I h54 5 x52) + x53 → ∀ h57 : ah_H, h57 = ah_sI h54 5 x52 v56 → K (ah_I h57 5 x52) h57) S0 hv.2 hr (fun F hF => by
      refine ⟨by rw [cI_T]; exact Q0.1, fun v56 e56 h57 e57 => ?_⟩
      rw [cI_I, S0.2.2.2.1.1, nI_add] at e56
      rw [e56] at e57
      have eI : ah_I h57 = ah_u2 (ah_I (ah_sI h 4 m 0)) 5 m (nI (tl + N)) := by rw [e57, sI_I, cI_I]
      have eb : ah_bI h57 = va_up (ah_bI (ah_sI h 4 m 0)) B.1 F := by rw [e57, sI_bI, cI_bI]
      have T := S0.2.1
      have bo : ∀ a, a ≠ B.1 → ah_bI h57 a = ah_bI (ah_sI h 4 m 0) a := fun a ha => by rw [eb, va_up_ne _ _ ha]
      rw [eI, u2_s]
      refine h0 hv.1 hv.2 hr h57 (mo_new S0 (by rw [e57, sI_T, cI_T]) (by rw [e57, sI_N, cI_N]) (fun k => by rw [e57, sI_R, cI_R]) (bo _ T.2.2.2.1.1.symm) (bo _ T.2.2.2.1.2.1.symm) (bo _ T.2.2.2.1.2.2.symm) ⟨by rw [eI]; exact u2_s _ _ _ _, hr, fun k hk => by rw [eb, va_up_self]; exact hF k hk⟩ ⟨by rw [eI, u2_k _ _ (by decide)]; exact S0.2.2.2.2.1, S0.2.2.2.2.2.1, fun i hi => by rw [bo _ T.2.2.2.2.2.symm]; exact S0.2.2.2.2.2.2 i hi⟩) ?_ (by rw [eI, u2_k _ _ (by decide)]; exact I0)
      refine ⟨by rw [e57, sI_T, cI_T, sI_T], by rw [e57, sI_N, cI_N, sI_N], by rw [e57, sI_L, cI_L, sI_L], by rw [e57, sI_R, cI_R, sI_R], by rw [e57, sI_bL, cI_bL, sI_bL], by rw [e57, sI_bR, cI_bR, sI_bR], fun k a ha => ?_, fun a ha => ?_⟩
      · rw [eI, u2_a _ _ ha]; exact F0.2.2.2.2.2.2.1 k a ha
      · rw [bo a (fun y => ha (by rw [y]; exact S.2.1.2.1.1)), sI_bI]) N 0 (ah_bI (ah_sI h 4 m 0) B.1) (by omega) (fun k hk => by
      rw [S0.2.2.2.1.2.2 k (by omega)]
      unfold fd_n
      rw [if_neg (by omega)])
    rw [cI_id] at key
    exact key
  · rw [S0.2.2.2.1.1, nI_add] at hc
    rw [sI_sI]
    exact h2 hv.1 hv.2 (fun y => hc ((nI_leI (b := 2600) (by omega) (by decide)).mpr y)) _ (mc_c S 2)
/-- out(k) -/
theorem q_out (S : mo_S h m A B z tl f wl g) {k : Int32} {K : Int64 → ah_H → Prop} (h0 : ∀ j, j < wl → k = nI j → ∀ h', mc_S h m A B z tl f wl g 0 h' → K (ou_v g j (min 8 (wl - j))) h') (h1 : ¬ (∃ j, j < wl ∧ k = nI j) → ∀ h', mc_S h m A B z tl f wl g 1 h' → K 0 h') : w_MO_out m k h K := by
  have Q := S.1
  have hw := S.2.2.2.2.2.1
  have M0 := mc_c S 0
  obtain ⟨F0, S0, I0⟩ := M0
  have Q0 := S0.1
  have hin : ((0 : Int64) ≤ k.toInt64 ∧ k.toInt64 ≤ ((ah_I h 6 m) - (1 : Int32)).toInt64) ↔ (∃ j, j < wl ∧ k = nI j) := by
    rw [S.2.2.2.2.1]
    have h2 : (nI wl - (1 : Int32)).toInt = (wl : Int) - 1 := pk_sub_toInt (b := 1) (by omega) (by decide)
    rw [Int64.le_iff_toInt_le, Int64.le_iff_toInt_le, Int32.toInt_toInt64, Int32.toInt_toInt64, h2]
    constructor
    · intro y
      have y1 : (0 : Int) ≤ k.toInt := y.1
      have h3 : ¬ k < 0 := by rw [Int32.lt_iff_toInt_lt]; exact Int.not_lt.mpr y1
      obtain ⟨j, hj, e⟩ := nI_of h3
      have y2 := y.2
      rw [e, nI_toInt hj] at y2
      exact ⟨j, by omega, e⟩
    · rintro ⟨j, hj, e⟩
      rw [e, nI_toInt (by omega)]
      exact ⟨Int.natCast_nonneg j, by omega⟩
  refine ⟨Q.1, s_in (fun c1 c2 _ => ⟨fun _ => ⟨Q.1, s_fails0 Q.1 (fun _ => ⟨fun _ => ?_, fun hc => absurd rfl hc⟩)⟩, fun hc => absurd hc (by decide)⟩) (fun hn _ => ⟨fun hc => absurd rfl hc, fun _ => ⟨Q.1, s_fails1 Q.1 (fun _ => ⟨fun hc => absurd hc (by decide), fun _ => h1 (fun y => hn (hin.mpr y)) _ (mc_c S 1)⟩)⟩⟩)⟩
  obtain ⟨j, hj, e⟩ := hin.mp ⟨c1, c2⟩
  subst e
  have K0 := h0 j hj rfl _ ⟨F0, S0, I0⟩
  obtain ⟨c, hc8, hcw, ec⟩ : ∃ c, c ≤ 8 ∧ j + c ≤ wl ∧ c = min 8 (wl - j) := ⟨_, by omega, by omega, rfl⟩
  rw [← ec] at K0
  have loop : ∀ (k i : Nat), c = i + k → ∃ m', lp_MO_out_36 (fun (x34 : Int64) h35 => bk_MO_out_79 K x34 h35) K m' m (nI j) (ou_v g j i) (nI i) (ah_sI h 4 m 0) := by
    intro k
    induction k with
    | zero =>
      intro i hi
      have e0 : i = c := by omega
      subst e0
      refine ⟨0 + 1, ?_⟩
      rw [lp_MO_out_36]
      refine ⟨fun _ => K0, fun h8 => ⟨Q0.1, fun _ => K0, fun hc => ?_⟩⟩
      exfalso
      have h9 : ¬ 8 ≤ i := fun y => h8 (nI_le (a := 8) y (by omega))
      rw [S0.2.2.2.2.1, nI_add] at hc
      exact hc (nI_le (by omega) (by omega))
    | succ k ih =>
      intro i hi
      obtain ⟨m', hm⟩ := ih (i + 1) (by omega)
      refine ⟨m' + 1, ?_⟩
      rw [lp_MO_out_36]
      refine ⟨fun hc => absurd hc (nI_ge (b := 8) (by omega) (by decide)), fun _ => ⟨Q0.1, fun hc => ?_, fun _ => ⟨B.2, S0.2.1.1.2, S0.2.1.2.1.2, ?_, fun v32 e32 v33 e33 => ?_⟩⟩⟩
      · rw [S0.2.2.2.2.1, nI_add] at hc
        exact absurd hc (nI_ge (by omega) (by omega))
      · rw [nI_add, S0.2.1.2.2.1.2]; exact vp_in_nI (by omega) (by decide)
      · rw [nI_add, nI_clamp (by omega), S0.2.2.2.2.2.2 (j + i) (by omega)] at e32
        rw [e32, e33, nI_1]
        exact hm
  exact loop c 0 (by omega)
end MP4
