section MP3
variable {h : ah_H} {m : Nat} {A : Nat × Nat × Nat} {D Z : Nat → Nat} {G : Nat → Int32} {B : Nat × Nat} {z : Nat → Int} {tl wl : Nat} {f : Nat → Nat} {g : Nat → Int32}
theorem sI_l {x : Int} (h : sI_n x < 0) : x < 0 := by
  rcases Int.lt_trichotomy x 0 with y | y | y
  · exact y
  · rw [sI_0.mpr y] at h; exact absurd h (by decide)
  · rw [sI_p.mpr y] at h; exact absurd h (by decide)
theorem sI_nl {x : Int} (h : ¬ sI_n x < 0) : 0 ≤ x := by
  rcases Int.lt_or_le x 0 with y | y
  · rw [sI_m.mpr y] at h; exact absurd (by decide) h
  · exact y
/-- isLong(a) -/
theorem il_c {p d : Nat} (hp : p ≤ 9223372036854775808) (hd : d < 10000) : (((-9223372036854775808 : Int64) + (nI d).toInt64) / (10000 : Int64) ≤ oL (-(p : Int))) ↔ p * 10000 + d ≤ 9223372036854775808 := by
  have e1 : (-9223372036854775808 : Int64) = oL (-9223372036854775808) := by decide
  rw [nI_l (by omega), oL_n, e1, oL_add]
  have e2 : (-9223372036854775808 : Int) + (d : Int) = sg_Z true (9223372036854775808 - d) := by rw [sg_t]; omega
  have hf : fl_Z (sg_Z true (9223372036854775808 - d)) := by rw [sg_t]; unfold fl_Z; omega
  rw [e2, sdv_k hf, oL_le (sg_fl hf (Nat.div_le_self _ _)) (by unfold fl_Z; omega), sg_t]
  omega
theorem il_s (p d : Nat) (hd : d < 10000) : (oL (-(p : Int)) * (10000 : Int64)) - (nI d).toInt64 = oL (-((p * 10000 + d : Nat) : Int)) := by
  rw [nI_l (by omega), oL_n]
  show oL _ * oL 10000 - oL _ = _
  rw [oL_mul, oL_sub]
  congr 1
  omega
theorem s_il_a (Q : mo_Q h m A) {a u : Nat} (ha : a < 18) (H : mr_D D Z a u) {xf : ah_H → Prop} {xt : Nat → Int32 → Int64 → ah_H → Prop} {K : Int32 → ah_H → Prop} (hf : 9223372036854775808 < u → xf (mh_S h A D Z G)) (hx : u ≤ 9223372036854775808 → xt m (nI a) (oL (-(u : Int))) (mh_S h A D Z G)) :
    ∀ (i p : Nat), i ≤ Z a → p = du_v 10000 (ro_n D a) i (Z a) → p ≤ 9223372036854775808 → lp_MO_isLong_24 xf xt K (i + 1) m (nI a) (oL (-(p : Int))) (nI i - 1) (mh_S h A D Z G) := by
  have hz := H.1
  intro i
  induction i with
  | zero =>
    intro p _ hp hl
    rw [lp_MO_isLong_24]
    refine ⟨fun _ => ?_, fun hc => absurd (by decide) hc⟩
    rw [du_0, ← H.2.2.2] at hp
    subst hp
    exact hx hl
  | succ i ih =>
    intro p hi hp hl
    have hd := H.2.1 i (by omega)
    have ed : du_v 10000 (ro_n D a) i (Z a) = p * 10000 + ro_n D a i := by rw [du_s (show i < Z a by omega), ← hp, Nat.mul_comm, Nat.add_comm]
    rw [nI_m1 (n := i + 1) (by omega), Nat.add_sub_cancel, lp_MO_isLong_24]
    refine ⟨fun hc => absurd hc (nI_pos (by omega)), fun _ => ⟨(mh_Q Q).1, s_mat Q ha (by omega) H.1 (fun _ => ?_)⟩⟩
    rw [rd_ro (by omega), il_c hl hd]
    refine ⟨fun hc => s_mat Q ha (by omega) H.1 (fun _ v30 e30 v31 e31 => ?_), fun hc => hf ?_⟩
    · rw [rd_ro (by omega), il_s p _ hd] at e30
      rw [e30, e31, ← Int32.sub_eq_add_neg]
      exact ih _ (by omega) ed.symm hc
    · have h1 := du_sp (B := 10000) (d := ro_n D a) (i := i) (n := Z a) (by omega)
      have h2 : du_v 10000 (ro_n D a) i (Z a) ≤ 10000 ^ i * du_v 10000 (ro_n D a) i (Z a) := Nat.le_mul_of_pos_left _ (Nat.pow_pos (by decide))
      rw [H.2.2.2, h1]
      omega
theorem s_isLong_m (Q : mo_Q h m A) {a : Nat} {x : Int} (ha : a < 18) (H : mz_D D Z G a x) {K : Int32 → ah_H → Prop} (hK : ∀ b : Bool, (b = true ↔ fl_Z x) → K (bi_n b) (mh_S h A D Z G)) : w_MO_isLong m (nI a) (mh_S h A D Z G) K := by
  have hz := H.1.1
  refine ⟨(mh_Q Q).1, A.2.1, (mh_Q Q).2.1.2.1, (mh_Q Q).2.2.1.2.1, in_z Q ha, fun hl => ⟨A.2.1, (mh_Q Q).2.1.2.1, (mh_Q Q).2.2.1.2.1, in_z Q ha, fun v13 e13 => ⟨Z a + 1, ?_⟩⟩, fun hl => hK false ⟨fun y => Bool.noConfusion y, fun y => ?_⟩⟩
  · rw [gz_k Q ha] at e13
    rw [e13, show (0 : Int64) = oL (-((0 : Nat) : Int)) from rfl]
    refine s_il_a Q ha H.1 (fun hb => hK false ⟨fun y => Bool.noConfusion y, fun y => ?_⟩) (fun hb => ⟨(mh_Q Q).1, A.2.2, (mh_Q Q).2.1.2.2, (mh_Q Q).2.2.1.2.2, in_g Q ha, fun hg => ?_, fun hg => ⟨fun hv => ?_, fun hv => ?_⟩⟩) (Z a) 0 (Nat.le_refl _) (by rw [du_n]) (by decide)
    · unfold fl_Z at y; omega
    · rw [gg_k Q ha, H.2] at hg
      have hx := sI_l hg
      exact ⟨Or.inr rfl, hK true ⟨fun _ => by unfold fl_Z; omega, fun _ => rfl⟩⟩
    · rw [gg_k Q ha, H.2] at hg
      have hx := sI_nl hg
      have e1 : (-9223372036854775808 : Int64) = oL (-9223372036854775808) := by decide
      rw [e1, oL_le (by unfold fl_Z; omega) (by unfold fl_Z; omega)] at hv
      exact ⟨Or.inl rfl, hK false ⟨fun y => Bool.noConfusion y, fun y => by unfold fl_Z at y; omega⟩⟩
    · rw [gg_k Q ha, H.2] at hg
      have hx := sI_nl hg
      have e1 : (-9223372036854775808 : Int64) = oL (-9223372036854775808) := by decide
      rw [e1, oL_le (by unfold fl_Z; omega) (by unfold fl_Z; omega)] at hv
      exact ⟨Or.inr rfl, hK true ⟨fun _ => by unfold fl_Z; omega, fun _ => rfl⟩⟩
  · rw [gz_k Q ha] at hl
    have h5 : ¬ Z a ≤ 5 := fun w => hl ((nI_leI (b := 5) (by omega) (by decide)).mpr w)
    have h1 := mr_ge H.1 (by omega)
    have h2 : (10000 : Nat) ^ 5 ≤ 10000 ^ (Z a - 1) := Nat.pow_le_pow_right (by decide) (by omega)
    have h3 : (10000 : Nat) ^ 5 = 100000000000000000000 := by decide
    unfold fl_Z at y
    rw [h3] at h2
    generalize (10000 : Nat) ^ (Z a - 1) = P at *
    omega
/-- longOf(a) -/
theorem s_lo_a (Q : mo_Q h m A) {a u : Nat} (ha : a < 18) (H : mr_D D Z a u) {xt : Nat → Int32 → Int64 → ah_H → Prop} {K : Int64 → ah_H → Prop} (hx : xt m (nI a) (oL (-(u : Int))) (mh_S h A D Z G)) :
    ∀ (i p : Nat), i ≤ Z a → p = du_v 10000 (ro_n D a) i (Z a) → lp_MO_longOf_12 xt K (i + 1) m (nI a) (oL (-(p : Int))) (nI i - 1) (mh_S h A D Z G) := by
  have hz := H.1
  intro i
  induction i with
  | zero =>
    intro p _ hp
    rw [lp_MO_longOf_12]
    refine ⟨fun _ => ?_, fun hc => absurd (by decide) hc⟩
    rw [du_0, ← H.2.2.2] at hp
    subst hp
    exact hx
  | succ i ih =>
    intro p hi hp
    have hd := H.2.1 i (by omega)
    have ed : du_v 10000 (ro_n D a) i (Z a) = p * 10000 + ro_n D a i := by rw [du_s (show i < Z a by omega), ← hp, Nat.mul_comm, Nat.add_comm]
    rw [nI_m1 (n := i + 1) (by omega), Nat.add_sub_cancel, lp_MO_longOf_12]
    refine ⟨fun hc => absurd hc (nI_pos (by omega)), fun _ => ⟨(mh_Q Q).1, s_mat Q ha (by omega) H.1 (fun _ v20 e20 v21 e21 => ?_)⟩⟩
    rw [rd_ro (by omega), il_s p _ hd] at e20
    rw [e20, e21, ← Int32.sub_eq_add_neg]
    exact ih _ (by omega) ed.symm
theorem s_longOf (Q : mo_Q h m A) {a : Nat} {x : Int} (ha : a < 18) (H : mz_D D Z G a x) {K : Int64 → ah_H → Prop} (hK : K (oL x) (mh_S h A D Z G)) : w_MO_longOf m (nI a) (mh_S h A D Z G) K := by
  have hz := H.1.1
  refine ⟨(mh_Q Q).1, A.2.1, (mh_Q Q).2.1.2.1, (mh_Q Q).2.2.1.2.1, in_z Q ha, fun v8 e8 => ⟨Z a + 1, ?_⟩⟩
  rw [gz_k Q ha] at e8
  rw [e8, show (0 : Int64) = oL (-((0 : Nat) : Int)) from rfl]
  refine s_lo_a Q ha H.1 ⟨(mh_Q Q).1, A.2.2, (mh_Q Q).2.1.2.2, (mh_Q Q).2.2.1.2.2, in_g Q ha, fun hg => ?_, fun hg => ?_⟩ (Z a) 0 (Nat.le_refl _) (by rw [du_n])
  · rw [gg_k Q ha, H.2] at hg
    have hx := sI_np hg
    show K _ _
    rw [oL_neg, Int.neg_neg, show ((x.natAbs : Nat) : Int) = x by omega]; exact hK
  · rw [gg_k Q ha, H.2] at hg
    have hx := sI_nn hg
    show K _ _
    rw [show -((x.natAbs : Nat) : Int) = x by omega]; exact hK
/-- value(a) -/
theorem q_value (S : mo_S h m A B z tl f wl g) {a : Int32} {K : Int64 → ah_H → Prop} (h0 : rk_n a < 12 → fl_Z (z (rk_n a)) → ∀ h', mc_S h m A B z tl f wl g 0 h' → K (oL (z (rk_n a))) h') (h1 : ¬ rk_n a < 12 → ∀ h', mc_S h m A B z tl f wl g 1 h' → K 0 h') (h2 : rk_n a < 12 → ¬ fl_Z (z (rk_n a)) → ∀ h', mc_S h m A B z tl f wl g 2 h' → K 0 h') : w_MO_value m a h K := by
  have Q := S.1
  have Q0 : mo_Q (ah_sI h 4 m 0) m A := sI_Q Q
  obtain ⟨D, Z, G, e, R⟩ := S.2.2.1
  refine s_isNone (fun ha _ => ⟨Q.1, s_fails0 Q.1 (fun _ => ⟨fun hc => absurd rfl hc, fun _ => ?_⟩)⟩) (fun ha _ => ⟨Q.1, s_fails1 Q.1 (fun _ => ⟨fun _ => h1 ha _ (mc_c S 1), fun hc => absurd hc (by decide)⟩)⟩)
  have H := (R.1 _ ha).1
  rw [mo_s0 e, (rk_ok ha).2.2]
  refine s_isLong_m Q0 (by omega) H (fun b hb _ => ⟨fun hc => ⟨(mh_Q Q0).1, s_fails0 (mh_Q Q0).1 (fun _ => ⟨fun _ => ?_, fun hc => absurd rfl hc⟩)⟩, fun hc => ⟨(mh_Q Q0).1, s_fails1 (mh_Q Q0).1 (fun _ => ⟨fun hc => absurd hc (by decide), fun _ => ?_⟩)⟩⟩)
  · have hf := hb.mp (by cases b; exact absurd rfl hc; rfl)
    rw [mh_sI, sI_sI]
    exact ⟨(mh_Q Q0).1, s_longOf Q0 (by omega) H (fun _ => h0 ha hf _ (mc_k S R (Sx := fun _ => False) mf_rf (fun _ _ y => y) 0))⟩
  · have hf : ¬ fl_Z (z (rk_n a)) := fun y => by rw [hb.mpr y] at hc; exact absurd hc (by decide)
    rw [mh_sI, sI_sI]
    exact h2 ha hf _ (mc_k S R (Sx := fun _ => False) mf_rf (fun _ _ y => y) 2)
/-- limb(a, k) -/
theorem dp_k {u i : Nat} : u / 65536 ^ i / 65536 = u / 65536 ^ (i + 1) := by rw [Nat.div_div_eq_div_mul, ← Nat.pow_succ]
theorem s_li_a (Q : mo_Q h m A) {u k : Nat} (hk : k ≤ 255) {xt : Nat → ah_H → Prop} {K : Int64 → ah_H → Prop}
    (hx : ∀ (D' Z' : Nat → Nat) (G' : Nat → Int32), mf_S (· = 13) D Z G D' Z' G' → mr_D D' Z' 13 (u / 65536 ^ (2 * k)) → xt m (mh_S h A D' Z' G')) :
    ∀ (j i : Nat) (D' Z' : Nat → Nat) (G' : Nat → Int32), 2 * k = i + j → mf_S (· = 13) D Z G D' Z' G' → mr_D D' Z' 13 (u / 65536 ^ i) → lp_MO_limb_43 xt K (j + 1) m (nI k) (nI i) (mh_S h A D' Z' G') := by
  have e2 : (2 : Int32) * nI k = nI (2 * k) := pk_mul 2 k
  intro j
  induction j with
  | zero =>
    intro i D' Z' G' hi f' M
    rw [lp_MO_limb_43, e2]
    refine ⟨fun _ => hx D' Z' G' f' (by rw [show 2 * k = i by omega]; exact M), fun hc => absurd (nI_le (by omega) (by omega)) hc⟩
  | succ j ih =>
    intro i D' Z' G' hi f' M
    have hz := M.1
    rw [lp_MO_limb_43, e2]
    refine ⟨fun hc => absurd hc (nI_ge (by omega) (by omega)), fun _ => ⟨(mh_Q Q).1, A.2.1, (mh_Q Q).2.1.2.1, (mh_Q Q).2.2.1.2.1, in_z (i := 13) Q (by decide), fun hc => hx D' Z' G' f' ?_, fun hc => z_parts (r := 13) Q (by decide) M (by decide) (by decide) (fun D2 Z2 G2 f2 M2 _ _ _ v46 e46 => ?_)⟩⟩
    · rw [show (13 : Int32) = nI 13 from rfl, gz_k Q (by decide)] at hc
      have h0 : Z' 13 = 0 := by
        rcases Nat.eq_zero_or_pos (Z' 13) with y | y
        · exact y
        · exact absurd hc (nI_nle y (by omega))
      have hu := (mr_0 M).mpr h0
      have : u / 65536 ^ (2 * k) = 0 := by
        rw [hi, Nat.pow_add, ← Nat.div_div_eq_div_mul, hu, Nat.zero_div]
      rw [this]
      rw [hu] at M
      exact M
    · rw [e46, nI_1]
      rw [dp_k] at M2
      exact ih (i + 1) D2 Z2 G2 (by omega) (mf_tr f' f2) M2
theorem li_v {w : Nat} : w % 65536 + 65536 * (w / 65536 % 65536) = w % 4294967296 := by omega
theorem q_limb (S : mo_S h m A B z tl f wl g) {a k : Int32} {K : Int64 → ah_H → Prop} (h0 : rk_n a < 12 → rn_n 255 k ≤ 255 → ∀ h', mc_S h m A B z tl f wl g 0 h' → K (lN ((z (rk_n a)).natAbs / 4294967296 ^ rn_n 255 k % 4294967296)) h') (h1 : ¬ (rk_n a < 12 ∧ rn_n 255 k ≤ 255) → ∀ h', mc_S h m A B z tl f wl g 1 h' → K 0 h') : w_MO_limb m a k h K := by
  have Q := S.1
  have Q0 : mo_Q (ah_sI h 4 m 0) m A := sI_Q Q
  obtain ⟨D, Z, G, e, R⟩ := S.2.2.1
  have bad : ¬ (rk_n a < 12 ∧ rn_n 255 k ≤ 255) → bk_MO_limb_25 K m a k (1 : Int32) m h := fun hn => ⟨Q.1, s_fails1 Q.1 (fun _ => ⟨fun hc => absurd hc (by decide), fun _ => h1 hn _ (mc_c S 1)⟩)⟩
  refine s_isNone (fun ha _ => ⟨fun hc => absurd rfl hc, fun _ => s_in (fun c1 c2 _ => ⟨fun _ => ⟨Q.1, s_fails0 Q.1 (fun _ => ⟨fun _ => ⟨(sI_Q Q).1, ?_⟩, fun hc => absurd rfl hc⟩)⟩, fun hc => absurd hc (by decide)⟩) (fun hn _ => ⟨fun hc => absurd rfl hc, fun _ => bad (fun y => hn ((in_n (by decide)).mpr y.2))⟩)⟩) (fun ha _ => ⟨fun _ => bad (fun y => ha y.1), fun hc => absurd hc (by decide)⟩)
  have hk : rn_n 255 k ≤ 255 := (in_n (by decide)).mp ⟨c1, c2⟩
  have ek := rn_ok (by decide) hk
  obtain ⟨N, hN⟩ : ∃ N, N = rn_n 255 k := ⟨_, rfl⟩
  have K0 := h0 ha hk
  rw [← hN] at K0 hk ek
  rw [mo_s0 e, (rk_ok ha).2.2, ek]
  obtain ⟨u, hu⟩ : ∃ u, u = (z (rk_n a)).natAbs := ⟨_, rfl⟩
  have H : mr_D D Z (rk_n a) u := by rw [hu]; exact (R.1 _ ha).1.1
  rw [← hu] at K0
  refine z_copyRow (to := 13) Q0 (by decide) (by omega) H (fun D1 Z1 G1 f1 M1 _ _ => ⟨2 * N + 1, ?_⟩)
  refine s_li_a (u := u) Q0 hk (fun D2 Z2 G2 f2 M2 => ⟨(mh_Q Q0).1, z_parts (r := 13) Q0 (by decide) M2 (by decide) (by decide) (fun D3 Z3 G3 f3 M3 _ _ _ v56 e56 => z_parts (r := 13) Q0 (by decide) M3 (by decide) (by decide) (fun D4 Z4 G4 f4 M4 _ _ _ => ?_))⟩) (2 * N) 0 D1 Z1 G1 (by omega) mf_rf (by rw [Nat.pow_zero, Nat.div_one]; exact M1)
  obtain ⟨w, hw⟩ : ∃ w, w = u / 65536 ^ (2 * N) := ⟨_, rfl⟩
  rw [← hw] at e56 ⊢
  have e5 : (4294967296 : Nat) ^ N = 65536 ^ (2 * N) := by rw [Nat.pow_mul]
  rw [e5, ← hw] at K0
  have ev : v56 + (65536 : Int64) * (nI (w / 65536 % 65536)).toInt64 = lN (w % 4294967296) := by
    have w1 : w % 65536 < 2 ^ 31 := Nat.lt_trans (Nat.mod_lt _ (by decide)) (by decide)
    have w2 : w / 65536 % 65536 < 2 ^ 31 := Nat.lt_trans (Nat.mod_lt _ (by decide)) (by decide)
    rw [e56, nI_l w1, nI_l w2]
    show lN _ + lN 65536 * lN _ = _
    rw [lN_mul, lN_add, li_v]
  rw [ev]
  exact K0 _ (mc_k S R (Sx := (· = 13)) (mf_tr f1 (mf_tr f2 (mf_tr f3 f4))) (fun x hx hy => by omega) 0)
/-- bits(a) -/
theorem s_bi_a (Q : mo_Q h m A) {u : Nat} {xt : Int32 → Int32 → ah_H → Prop} {K : Int32 → ah_H → Prop}
    (h0 : u = 0 → ∀ (D' Z' : Nat → Nat) (G' : Nat → Int32), mf_S (· = 13) D Z G D' Z' G' → xt (nI 0) (nI 0) (mh_S h A D' Z' G'))
    (hx : ∀ (D' Z' : Nat → Nat) (G' : Nat → Int32) (j lo : Nat), mf_S (· = 13) D Z G D' Z' G' → j ≤ 2000 → lo < 65536 → lo ≠ 0 → u / 65536 ^ j = lo → xt (nI (16 * (j + 1))) (nI lo) (mh_S h A D' Z' G')) :
    ∀ (N j lo : Nat) (D' Z' : Nat → Nat) (G' : Nat → Int32), j + N = 2000 → u / 65536 ^ j < 65536 ^ N → mf_S (· = 13) D Z G D' Z' G' → mr_D D' Z' 13 (u / 65536 ^ j) → (j = 0 → lo = 0) → (j ≠ 0 → lo = u / 65536 ^ (j - 1) % 65536 ∧ u / 65536 ^ (j - 1) ≠ 0) → lp_MO_bits_11 xt K (N + 1) m (nI (16 * j)) (nI lo) (mh_S h A D' Z' G') := by
  intro N
  have fin : ∀ (k j lo : Nat) (D' Z' : Nat → Nat) (G' : Nat → Int32), j ≤ 2000 → u / 65536 ^ j = 0 → mf_S (· = 13) D Z G D' Z' G' → (j = 0 → lo = 0) → (j ≠ 0 → lo = u / 65536 ^ (j - 1) % 65536 ∧ u / 65536 ^ (j - 1) ≠ 0) → xt (nI (16 * j)) (nI lo) (mh_S h A D' Z' G') := by
    intro k j lo D' Z' G' hj hu f' c1 c2
    rcases Nat.eq_zero_or_pos j with y | y
    · subst y
      rw [Nat.pow_zero, Nat.div_one] at hu
      rw [c1 rfl]
      exact h0 hu D' Z' G' f'
    · obtain ⟨i, rfl⟩ : ∃ i, j = i + 1 := ⟨j - 1, by omega⟩
      obtain ⟨d1, d2⟩ := c2 (by omega)
      rw [Nat.add_sub_cancel] at d1 d2
      rw [← dp_k] at hu
      have hlt : u / 65536 ^ i < 65536 := by
        rcases (Nat.div_eq_zero_iff).mp hu with w | w
        · exact absurd w (by decide)
        · exact w
      rw [Nat.mod_eq_of_lt hlt] at d1
      exact hx D' Z' G' i lo f' (by omega) (by omega) (by omega) d1.symm
  induction N with
  | zero =>
    intro j lo D' Z' G' hj hu f' M c1 c2
    have hu0 : u / 65536 ^ j = 0 := Nat.lt_one_iff.mp hu
    rw [lp_MO_bits_11]
    refine ⟨(mh_Q Q).1, A.2.1, (mh_Q Q).2.1.2.1, (mh_Q Q).2.2.1.2.1, in_z (i := 13) Q (by decide), fun _ => fin 0 j lo D' Z' G' (by omega) hu0 f' c1 c2, fun hc => absurd ?_ hc⟩
    rw [show (13 : Int32) = nI 13 from rfl, gz_k Q (by decide), (mr_0 M).mp hu0]
    decide
  | succ N ih =>
    intro j lo D' Z' G' hj hu f' M c1 c2
    have hz := M.1
    rw [lp_MO_bits_11]
    refine ⟨(mh_Q Q).1, A.2.1, (mh_Q Q).2.1.2.1, (mh_Q Q).2.2.1.2.1, in_z (i := 13) Q (by decide), fun hc => fin 0 j lo D' Z' G' (by omega) ?_ f' c1 c2, fun hc => z_parts (r := 13) Q (by decide) M (by decide) (by decide) (fun D2 Z2 G2 f2 M2 _ _ _ v22 e22 => ?_)⟩
    · rw [show (13 : Int32) = nI 13 from rfl, gz_k Q (by decide)] at hc
      have h0 : Z' 13 = 0 := by
        rcases Nat.eq_zero_or_pos (Z' 13) with y | y
        · exact y
        · exact absurd hc (nI_nle y (by omega))
      exact (mr_0 M).mpr h0
    · rw [show (13 : Int32) = nI 13 from rfl, gz_k Q (by decide)] at hc
      have hne : u / 65536 ^ j ≠ 0 := fun y => hc (by rw [(mr_0 M).mp y]; decide)
      have e22' : v22 = nI (16 * (j + 1)) := by
        rw [e22]
        show nI (16 * j) + nI 16 = _
        rw [nI_add]
        congr 1
      rw [e22']
      rw [dp_k] at M2
      refine ih (j + 1) _ D2 Z2 G2 (by omega) ?_ (mf_tr f' f2) M2 (fun y => absurd y (by omega)) (fun _ => ?_)
      · rw [← dp_k]
        exact Nat.div_lt_of_lt_mul (by rw [Nat.pow_succ, Nat.mul_comm] at hu; exact hu)
      · rw [Nat.add_sub_cancel]
        exact ⟨rfl, hne⟩
theorem s_bi_t {lo b : Nat} (hl : lo < 65536) (hb : bl_N lo b) {n : Int32} {xt : Int32 → Int32 → ah_H → Prop} {K : Int32 → ah_H → Prop} (hx : xt n (nI b) h) : ∀ (k c : Nat), b = c + k → ∃ f, lp_MO_bits_39 xt K f n (nI lo) (nI c) h := by
  have hb16 : b ≤ 16 := by
    rcases hb.2 with y | y
    · omega
    · have h1 : (2 : Nat) ^ (b - 1) < 2 ^ 16 := Nat.lt_of_le_of_lt y hl
      have := (Nat.pow_lt_pow_iff_right (a := 2) (by decide)).mp h1
      omega
  have sh : ∀ c, c ≤ 16 → nI lo >>> (nI c &&& 31) = nI (lo / 2 ^ c) := fun c hc => by
    have e1 : nI c &&& 31 = nI c := by
      rw [pk_andN (by omega) 5 (by decide), Nat.mod_eq_of_lt (by omega)]
    rw [e1]
    refine pk_shrN (by omega) _ c ?_
    have : ∀ c, c < 17 → ((nI c).toBitVec.smod 32).toNat = c := by decide +kernel
    exact this c (by omega)
  intro k
  induction k with
  | zero =>
    intro c hc
    have e0 : c = b := by omega
    subst e0
    refine ⟨0 + 1, ?_⟩
    rw [lp_MO_bits_39, sh c hb16, Nat.div_eq_of_lt hb.1]
    exact ⟨fun _ => hx, fun w => absurd (by decide) w⟩
  | succ k ih =>
    intro c hc
    obtain ⟨f, hf⟩ := ih (c + 1) (by omega)
    refine ⟨f + 1, ?_⟩
    rw [lp_MO_bits_39, sh c (by omega)]
    refine ⟨fun w => absurd w (nI_nle ?_ ?_), fun _ v31 e31 => ?_⟩
    · rcases hb.2 with y | y
      · omega
      · have h1 : (2 : Nat) ^ c ≤ lo := Nat.le_trans (Nat.pow_le_pow_right (by decide) (by omega)) y
        exact Nat.div_pos h1 (Nat.pow_pos (by decide))
    · exact Nat.lt_of_le_of_lt (Nat.div_le_self _ _) (by omega)
    · rw [e31, nI_1]; exact hf
theorem lim_16 : lim_N < 65536 ^ 2000 := by rw [lim_eq]; decide +kernel
theorem s_bits_m (Q : mo_Q h m A) {a u : Nat} (ha : a < 12) (H : mr_D D Z a u) (hu : u < lim_N) {K : Int32 → ah_H → Prop} (hK : ∀ (b : Nat) (D' Z' : Nat → Nat) (G' : Nat → Int32), bl_N u b → mf_S (· = 13) D Z G D' Z' G' → K (nI b) (mh_S h A D' Z' G')) : w_MO_bits m (nI a) (mh_S h A D Z G) K := by
  refine ⟨(mh_Q Q).1, z_copyRow (to := 13) Q (by decide) (by omega) H (fun D1 Z1 G1 f1 M1 _ _ => ⟨2000 + 1, ?_⟩)⟩
  refine s_bi_a (u := u) Q (fun hu0 D2 Z2 G2 f2 => ?_) (fun D2 Z2 G2 j lo f2 hj hl hn hv => ?_) 2000 0 0 D1 Z1 G1 (by decide) (by rw [Nat.pow_zero, Nat.div_one]; exact Nat.lt_trans hu lim_16) mf_rf (by rw [Nat.pow_zero, Nat.div_one]; exact M1) (fun _ => rfl) (fun y => absurd rfl y)
  · refine s_bi_t (lo := 0) (b := 0) (by decide) ⟨by decide, Or.inl rfl⟩ ⟨fun hc => absurd rfl hc, fun _ => hK 0 D2 Z2 G2 (by rw [hu0]; exact ⟨by decide, Or.inl rfl⟩) (mf_tr f1 f2)⟩ 0 0 rfl
  · obtain ⟨b, hb, hbl⟩ := bl_ex 16 lo hl
    refine s_bi_t (lo := lo) (b := b) hl hbl ⟨fun _ => ?_, fun hc => absurd hc (nI_ne0 (by omega) (by omega))⟩ b 0 (by omega)
    show K _ _
    have e1 : nI (16 * (j + 1)) - (16 : Int32) + nI b = nI (16 * j + b) := by
      have : nI (16 * (j + 1)) - (16 : Int32) = nI (16 * j) := by
        show nI (16 * (j + 1)) - nI 16 = _
        rw [nI_sub (by omega)]
        congr 1
      rw [this, nI_add]
    rw [e1]
    refine hK _ D2 Z2 G2 ⟨?_, Or.inr ?_⟩ (mf_tr f1 f2)
    · have hp : (65536 : Nat) ^ j = 2 ^ (16 * j) := by rw [Nat.pow_mul]
      rw [hp] at hv
      have h1 : u < (lo + 1) * 2 ^ (16 * j) := by
        rw [← hv]
        have := Nat.lt_mul_div_succ u (b := 2 ^ (16 * j)) (Nat.pow_pos (by decide))
        rw [Nat.mul_comm] at this
        exact this
      have h2 : (lo + 1) * 2 ^ (16 * j) ≤ 2 ^ b * 2 ^ (16 * j) := Nat.mul_le_mul_right _ hbl.1
      rw [Nat.pow_add, Nat.mul_comm (2 ^ (16 * j))]
      exact Nat.lt_of_lt_of_le h1 h2
    · have hp : (65536 : Nat) ^ j = 2 ^ (16 * j) := by rw [Nat.pow_mul]
      rw [hp] at hv
      have hb0 : b ≠ 0 := by
        intro y
        have := hbl.1
        rw [y, Nat.pow_zero] at this
        omega
      have h1 : 2 ^ (b - 1) ≤ lo := by
        rcases hbl.2 with y | y
        · exact absurd y hb0
        · exact y
      rw [show 16 * j + b - 1 = (b - 1) + 16 * j by omega, Nat.pow_add]
      have h2 : 2 ^ (b - 1) * 2 ^ (16 * j) ≤ lo * 2 ^ (16 * j) := Nat.mul_le_mul_right _ h1
      have h3 : lo * 2 ^ (16 * j) ≤ u := by rw [← hv]; exact Nat.div_mul_le_self _ _
      exact Nat.le_trans h2 h3
end MP3
