section MO2
variable {h : ah_H} {m : Nat} {A : Nat × Nat × Nat} {D Z : Nat → Nat} {G : Nat → Int32}
theorem ro_u {r i x : Nat} : ro_n (dg_u D (1300 * r + i) x) r = dg_u (ro_n D r) i x := by
  funext k
  unfold ro_n
  by_cases z : k = i
  · rw [z, dg_us, dg_us]
  · rw [dg_un (by omega), dg_un z]
theorem uu_k {f : Nat → Nat} {i x y : Nat} : dg_u (dg_u f i x) i y = dg_u f i y := by
  funext j
  by_cases z : j = i
  · rw [z, dg_us, dg_us]
  · rw [dg_un z, dg_un z, dg_un z]
theorem u_id {f : Nat → Nat} {i : Nat} : dg_u f i (f i) = f := by
  funext j
  by_cases z : j = i
  · rw [z, dg_us]
  · rw [dg_un z]
theorem up_up {f : Nat → Int32} {i : Nat} {x y : Int32} : upd (upd f i x) i y = upd f i y := by
  funext j
  by_cases z : j = i
  · rw [z, pk_us, pk_us]
  · rw [pk_un z, pk_un z, pk_un z]
theorem up_self {f : Nat → Int32} {i : Nat} : upd f i (f i) = f := by
  funext j
  by_cases z : j = i
  · rw [z, pk_us]
  · rw [pk_un z]
/-- division of a long by the base -/
theorem sg_fl {b : Bool} {a c : Nat} (h : fl_Z (sg_Z b a)) (hc : c ≤ a) : fl_Z (sg_Z b c) := by
  unfold fl_Z at *
  cases b
  · rw [sg_f] at *; omega
  · rw [sg_t] at *; omega
theorem sdv_k {b : Bool} {a : Nat} (ha : fl_Z (sg_Z b a)) : oL (sg_Z b a) / (10000 : Int64) = oL (sg_Z b (a / 10000)) := by
  apply Int64.toInt_inj.mp
  have hf := sg_fl ha (Nat.div_le_self a 10000)
  rw [Int64.toInt_div, oL_ti ha, oL_ti hf]
  have e1 : (10000 : Int64).toInt = 10000 := by decide
  rw [e1]
  have e2 : (sg_Z b a).tdiv 10000 = sg_Z b (a / 10000) := by
    cases b
    · rw [sg_f, sg_f, Int.tdiv_eq_ediv_of_nonneg (by omega)]; omega
    · rw [sg_t, sg_t, Int.neg_tdiv, Int.tdiv_eq_ediv_of_nonneg (by omega)]; omega
  rw [e2]
  unfold fl_Z at hf
  apply Int.bmod_eq_of_le <;> omega
theorem sr_k {b : Bool} {a : Nat} (ha : fl_Z (sg_Z b a)) : oL (sg_Z b a) - oL (sg_Z b a) / (10000 : Int64) * (10000 : Int64) = oL (sg_Z b (a % 10000)) := by
  rw [sdv_k ha]
  show oL _ - oL _ * oL 10000 = _
  rw [oL_mul, oL_sub]
  congr 1
  cases b
  · rw [sg_f, sg_f, sg_f]; omega
  · rw [sg_t, sg_t, sg_t]; omega
def sI_n (z : Int) : Int32 := if z < 0 then -1 else if z = 0 then 0 else 1
theorem s_set_b (Q : mo_Q h m A) {r n a x : Nat} (hr : r < 18) (hn : n < 1300) {b : Bool} (ha : fl_Z (sg_Z b a)) {rc : Nat → Int32 → Int64 → ah_H → Prop} {K : ah_H → Prop} {v : Int64} (hv : v = lN x)
    (hk : rc m (nI r) (oL (sg_Z b (a / 10000))) (mh_S h A (dg_u D (1300 * r + n) x) (dg_u Z r (n + 1)) G)) : bk_MO_setRow_83 rc K m (nI r) (oL (sg_Z b a)) v (nI (1300 * r + n)) A.1 (mh_S h A D (dg_u Z r n) G) := by
  intro v50 e50
  rw [hv, lN_i] at e50
  refine ⟨(mh_Q Q).2.2.1.1, in_d Q (by omega), fun h53 e53 v56 e56 => ?_⟩
  rw [e50, nI_clamp (by omega), mw_d Q] at e53
  rw [e53]
  refine ⟨(mh_Q Q).1, A.2.1, (mh_Q Q).2.1.2.1, (mh_Q Q).2.2.1.2.1, in_z Q hr, fun v62 e62 => ⟨in_z Q hr, fun h64 e64 => ?_⟩⟩
  rw [gz_k Q hr, dg_us, nI_1] at e62
  rw [e62, nI_clamp (by omega), mw_z Q, uu_k] at e64
  rw [e64, e56, sdv_k ha]
  exact hk
theorem s_set_a (Q : mo_Q h m A) {r V : Nat} (hr : r < 18) {b : Bool} {xt : ah_H → Prop} {K : ah_H → Prop} (hx : ∀ (D' : Nat → Nat) (n : Nat), rf_D r D D' → mr_D D' (dg_u Z r n) r V → n ≤ 5 → xt (mh_S h A D' (dg_u Z r n) G)) :
    ∀ (k n a : Nat) (D' : Nat → Nat), n + k = 5 → a < 10000 ^ k → fl_Z (sg_Z b a) → rf_D r D D' → (∀ j, j < n → ro_n D' r j < 10000) → (a = 0 → n = 0 ∨ ro_n D' r (n - 1) ≠ 0) → dg_v 10000 (ro_n D' r) n + 10000 ^ n * a = V → ∃ m', lp_MO_setRow_37 xt K m' m (nI r) (oL (sg_Z b a)) (mh_S h A D' (dg_u Z r n) G) := by
  intro k
  have fin : ∀ (n : Nat) (D' : Nat → Nat), n ≤ 5 → rf_D r D D' → (∀ j, j < n → ro_n D' r j < 10000) → (n = 0 ∨ ro_n D' r (n - 1) ≠ 0) → dg_v 10000 (ro_n D' r) n + 10000 ^ n * 0 = V → ∃ m', lp_MO_setRow_37 xt K m' m (nI r) (oL (sg_Z b 0)) (mh_S h A D' (dg_u Z r n) G) := by
    intro n D' hn h1 h2 h3 h4
    refine ⟨0 + 1, ?_⟩
    rw [lp_MO_setRow_37]
    refine ⟨fun _ => hx D' n h1 ⟨by rw [dg_us]; omega, fun k hk => h2 k (by rw [dg_us] at hk; exact hk), by rw [dg_us]; exact h3, by rw [dg_us, ← h4]; omega⟩ hn, fun hc => absurd ?_ hc⟩
    cases b <;> rfl
  induction k with
  | zero =>
    intro n a D' hn ha hf h1 h2 h3 h4
    have ha0 : a = 0 := by rw [Nat.pow_zero] at ha; omega
    subst ha0
    exact fin n D' (by omega) h1 h2 (h3 rfl) h4
  | succ k ih =>
    intro n a D' hn ha hf h1 h2 h3 h4
    by_cases ha0 : a = 0
    · subst ha0
      exact fin n D' (by omega) h1 h2 (h3 rfl) h4
    · have hne : ¬ oL (sg_Z b a) = (0 : Int64) := by
        intro z
        have := (oL_eq hf (b := 0) ⟨by decide, by decide⟩).mp z
        cases b
        · rw [sg_f] at this; omega
        · rw [sg_t] at this; omega
      obtain ⟨m', hm⟩ := ih (n + 1) (a / 10000) (dg_u D' (1300 * r + n) (a % 10000)) (by omega) (by rw [Nat.pow_succ] at ha; omega) (sg_fl hf (Nat.div_le_self _ _)) (rf_tr h1 (rf_u (by omega))) (fun j hj => by
        rw [ro_u]
        by_cases z : j = n
        · rw [z, dg_us]; omega
        · rw [dg_un z]; exact h2 j (by omega)) (fun hz => Or.inr (by rw [ro_u, Nat.add_sub_cancel, dg_us]; omega)) (by
        rw [ro_u]
        show dg_v 10000 _ n + dg_u _ n _ n * 10000 ^ n + _ = V
        rw [dg_us_v (Nat.le_refl n), dg_us, ← h4, Nat.pow_succ]
        have e1 : 10000 ^ n * 10000 * (a / 10000) = 10000 ^ n * (10000 * (a / 10000)) := Nat.mul_assoc _ _ _
        have e2 : a % 10000 * 10000 ^ n = 10000 ^ n * (a % 10000) := Nat.mul_comm _ _
        have e3 : 10000 ^ n * a = 10000 ^ n * (10000 * (a / 10000)) + 10000 ^ n * (a % 10000) := by rw [← Nat.mul_add, Nat.div_add_mod]
        rw [e1, e2, e3]; omega)
      refine ⟨m' + 1, ?_⟩
      rw [lp_MO_setRow_37]
      refine ⟨fun hc => absurd hc hne, fun _ v34 e34 => ⟨(mh_Q Q).1, A.1, (mh_Q Q).2.1.1, A.2.1, (mh_Q Q).2.1.2.1, (mh_Q Q).2.2.1.2.1, in_z Q hr, fun hp => ?_, fun hp => ?_⟩⟩
      · rw [sr_k hf] at e34
        rw [gz_k Q hr, dg_us, ix_k]
        refine s_set_b Q hr (by omega) hf ?_ hm
        rw [e34, oL_n]
        congr 1
        cases b
        · rfl
        · rw [e34] at hp
          have := (oL_le (a := 0) ⟨by decide, by decide⟩ (sg_fl hf (Nat.mod_le a 10000))).mp hp
          rw [sg_t] at this ⊢
          omega
      · rw [sr_k hf] at e34
        rw [gz_k Q hr, dg_us, ix_k]
        refine s_set_b Q hr (by omega) hf ?_ hm
        rw [e34, oL_neg, oL_n]
        congr 1
        cases b
        · exfalso
          apply hp
          rw [e34]
          refine (oL_le (a := 0) ⟨by decide, by decide⟩ (sg_fl hf (Nat.mod_le a 10000))).mpr ?_
          rw [sg_f]; omega
        · rw [sg_t]; omega
/-- setRow(r, v) -/
theorem s_setRow (Q : mo_Q h m A) {r : Nat} (hr : r < 18) {v : Int64} {K : ah_H → Prop} (hK : ∀ (D' : Nat → Nat) (n : Nat), rf_D r D D' → mr_D D' (dg_u Z r n) r v.toInt.natAbs → n ≤ 5 → K (mh_S h A D' (dg_u Z r n) (upd G r (sI_n v.toInt)))) : w_MO_setRow m (nI r) v (mh_S h A D Z G) K := by
  have hv1 := v.toInt_lt
  have hv2 := v.le_toInt
  have hfl : fl_Z v.toInt := ⟨hv2, hv1⟩
  have ev : v = oL v.toInt := by
    apply Int64.toInt_inj.mp
    rw [oL_ti hfl]
  have go : ∀ s : Int32, s = sI_n v.toInt → bk_MO_setRow_36 K m (nI r) v s (nI r) A.2.2 (mh_S h A D (dg_u Z r 0) G) := by
    intro s hs
    refine ⟨(mh_Q Q).2.2.1.2.2, in_g Q hr, fun h26 e26 => ?_⟩
    rw [nI_clamp (by omega), mw_g, hs] at e26
    rw [e26]
    obtain ⟨b, hb⟩ : ∃ b : Bool, sg_Z b v.toInt.natAbs = v.toInt := by
      by_cases z : v.toInt < 0
      · exact ⟨true, by rw [sg_t]; omega⟩
      · exact ⟨false, by rw [sg_f]; omega⟩
    have hv5 : v.toInt.natAbs < 10000 ^ 5 := by
      have e5 : (10000 : Nat) ^ 5 = 100000000000000000000 := by decide
      rw [e5]; omega
    have key := s_set_a (G := upd G r (sI_n v.toInt)) (D := D) (Z := Z) (K := K) (xt := fun h69 => K h69) (V := v.toInt.natAbs) (b := b) Q hr (fun D' n h1 h2 h3 => hK D' n h1 h2 h3) 5 0 v.toInt.natAbs D rfl hv5 (by rw [hb]; exact hfl) rf_rf (fun j hj => absurd hj (Nat.not_lt_zero _)) (fun _ => Or.inl rfl) (by show 0 + 1 * _ = _; omega)
    rw [hb, ← ev] at key
    exact key
  refine ⟨(mh_Q Q).1, A.2.1, (mh_Q Q).2.1.2.1, (mh_Q Q).2.2.1.2.1, in_z Q hr, fun h9 e9 => ?_⟩
  rw [nI_clamp (by omega), ← nI_0, mw_z Q] at e9
  rw [e9]
  refine ⟨A.2.2, (mh_Q Q).2.1.2.2, fun hp => ⟨fun hq => go 0 ?_, fun hq => go 1 ?_⟩, fun hp => go (-1) ?_⟩
  · rw [Int64.le_iff_toInt_le] at hp hq
    have h1 : (0 : Int) ≤ v.toInt := hp
    have h2 : v.toInt ≤ 0 := hq
    unfold sI_n
    rw [if_neg (by omega), if_pos (by omega)]
  · rw [Int64.le_iff_toInt_le] at hp hq
    have h1 : (0 : Int) ≤ v.toInt := hp
    have h2 : ¬ v.toInt ≤ 0 := hq
    unfold sI_n
    rw [if_neg (by omega), if_neg (by omega)]
  · rw [Int64.le_iff_toInt_le] at hp
    have h1 : ¬ (0 : Int) ≤ v.toInt := hp
    unfold sI_n
    rw [if_pos (by omega)]
/-- scale(r, by) -/
theorem s_scale_a (Q : mo_Q h m A) {r V by' : Nat} (hr : r < 18) (R : mr_D D Z r V) (h0 : 0 < by') (hb : by' ≤ 10000) {xt : Nat → Int32 → Int32 → ah_H → Prop} {K : ah_H → Prop}
    (hx : ∀ (D' : Nat → Nat) (c : Nat), rf_D r D D' → (∀ j, j < Z r → ro_n D' r j < 10000) → c < by' → dg_v 10000 (ro_n D' r) (Z r) + c * 10000 ^ Z r = by' * V → xt m (nI r) (nI c) (mh_S h A D' Z G)) :
    ∀ (k i : Nat) (D' : Nat → Nat) (c : Nat), Z r = i + k → rf_D r D D' → (∀ j, j < i → ro_n D' r j < 10000) → (∀ j, i ≤ j → ro_n D' r j = ro_n D r j) → c < by' → dg_v 10000 (ro_n D' r) i + c * 10000 ^ i = by' * dg_v 10000 (ro_n D r) i + 0 → lp_MO_scale_5 xt K (k + 1) m (nI r) (nI by') (nI c) (nI i) (mh_S h A D' Z G) := by
  have hz := R.1
  intro k
  induction k with
  | zero =>
    intro i D' c hi h1 h2 h3 h4 h5
    have e0 : i = Z r := by omega
    subst e0
    rw [lp_MO_scale_5]
    refine ⟨(mh_Q Q).1, A.2.1, (mh_Q Q).2.1.2.1, (mh_Q Q).2.2.1.2.1, in_z Q hr, fun _ => hx D' c h1 h2 h4 (by rw [R.2.2.2]; omega), fun hc => absurd ?_ hc⟩
    rw [gz_k Q hr]; exact nI_le (Nat.le_refl _) (by omega)
  | succ k ih =>
    intro i D' c hi h1 h2 h3 h4 h5
    have hdi := R.2.1 i (by omega)
    have hei : ro_n D' r i = ro_n D r i := h3 i (Nat.le_refl i)
    have hs : ro_n D r i * by' + c < 10000 * by' := by
      have : ro_n D r i * by' ≤ 9999 * by' := Nat.mul_le_mul_right _ (by omega)
      omega
    have hv : vp_in ((1300 : Int32) * nI r + nI i) (ah_N (mh_S h A D' Z G) A.1) := by rw [ix_k]; exact in_d Q (by omega)
    rw [lp_MO_scale_5]
    refine ⟨(mh_Q Q).1, A.2.1, (mh_Q Q).2.1.2.1, (mh_Q Q).2.2.1.2.1, in_z Q hr, fun hc => ?_, fun _ => s_mat Q hr (by omega) R.1 (fun _ v21 e21 => ⟨A.1, (mh_Q Q).2.1.1, fun v24 e24 => ⟨(mh_Q Q).2.2.1.1, hv, fun h27 e27 v32 e32 v33 e33 => ?_⟩⟩)⟩
    · rw [gz_k Q hr] at hc
      exact absurd hc (nI_ge (by omega) (by omega))
    · rw [rd_ro (by omega), pk_mul, nI_add, hei] at e21
      have ih' := ih (i + 1) (dg_u D' (1300 * r + i) ((ro_n D r i * by' + c) % 10000)) ((ro_n D r i * by' + c) / 10000) (by omega) (rf_tr h1 (rf_u (by omega))) (fun j hj => by
        rw [ro_u]
        by_cases z : j = i
        · rw [z, dg_us]; omega
        · rw [dg_un z]; exact h2 j (by omega)) (fun j hj => by rw [ro_u, dg_un (by omega)]; exact h3 j (by omega)) (by omega) (by
        rw [ro_u]
        exact mc_step (a := by') (c0 := 0) rfl h5)
      generalize ro_n D r i * by' + c = s at *
      rw [e21] at e24 e32
      rw [show nI s - nI s / (10000 : Int32) * (10000 : Int32) = nI (s % 10000) from pk_rem (d := 10000) (by omega) (by decide) (by decide)] at e24
      rw [show nI s / (10000 : Int32) = nI (s / 10000) from pk_div (d := 10000) (by omega) (by decide) (by decide)] at e32
      rw [e24, ix_k, nI_clamp (by omega), mw_d Q] at e27
      rw [e27, e32, e33, nI_1]
      exact ih'
theorem s_scale (Q : mo_Q h m A) {r V by' : Nat} (hr : r < 18) (R : mr_D D Z r V) (hz : Z r ≤ 1299) (h0 : 0 < by') (hb : by' ≤ 10000) {K : ah_H → Prop} (hK : ∀ (D' : Nat → Nat) (n : Nat), rf_D r D D' → n ≤ Z r + 1 → mr_D D' (dg_u Z r n) r (by' * V) → K (mh_S h A D' (dg_u Z r n) G)) : w_MO_scale m (nI r) (nI by') (mh_S h A D Z G) K := by
  refine ⟨Z r + 1, s_scale_a Q hr R h0 hb (fun D' c h1 h2 h3 h4 => ?_) (Z r) 0 D 0 (by omega) rf_rf (fun j hj => absurd hj (Nat.not_lt_zero _)) (fun _ _ => rfl) h0 (by show 0 + 0 * 1 = by' * 0 + 0; omega)⟩
  by_cases hc : c = 0
  · subst hc
    refine ⟨0 + 1, ?_⟩
    rw [lp_MO_scale_61]
    refine ⟨fun _ => ?_, fun hn => absurd (by decide) hn⟩
    have := hK D' (Z r) h1 (by omega) ⟨by rw [dg_us]; omega, fun k hk => h2 k (by rw [dg_us] at hk; exact hk), ?_, by rw [dg_us]; omega⟩
    · rw [u_id] at this; exact this
    · rw [dg_us]
      rcases Nat.eq_zero_or_pos (Z r) with z | z
      · exact Or.inl z
      · right
        have h5 := mr_ge R z
        obtain ⟨n, hn⟩ : ∃ n, Z r = n + 1 := ⟨Z r - 1, by omega⟩
        rw [hn] at h2 h4 h5 ⊢
        refine dg_tp (B := 10000) (k := n) (fun j hj => h2 j (by omega)) ?_
        rw [Nat.zero_mul, Nat.add_zero] at h4
        rw [h4]
        exact Nat.le_trans h5 (Nat.le_mul_of_pos_left _ h0)
  · refine ⟨(0 + 1) + 1, ?_⟩
    rw [lp_MO_scale_61]
    refine ⟨fun hn => absurd hn (nI_nle (by omega) (by omega)), fun _ => ⟨(mh_Q Q).1, A.1, (mh_Q Q).2.1.1, A.2.1, (mh_Q Q).2.1.2.1, (mh_Q Q).2.2.1.2.1, in_z Q hr, fun v50 e50 => ⟨(mh_Q Q).2.2.1.1, ?_, fun h53 e53 v58 e58 => ?_⟩⟩⟩
    · rw [gz_k Q hr, ix_k]; exact in_d Q (by omega)
    · rw [show nI c - nI c / (10000 : Int32) * (10000 : Int32) = nI (c % 10000) from pk_rem (d := 10000) (by omega) (by decide) (by decide), Nat.mod_eq_of_lt (by omega)] at e50
      rw [show nI c / (10000 : Int32) = nI (c / 10000) from pk_div (d := 10000) (by omega) (by decide) (by decide), Nat.div_eq_of_lt (by omega)] at e58
      rw [e50, gz_k Q hr, ix_k, nI_clamp (by omega), mw_d Q] at e53
      rw [e53]
      refine ⟨A.2.1, (mh_Q Q).2.1.2.1, (mh_Q Q).2.2.1.2.1, in_z Q hr, fun v63 e63 => ⟨in_z Q hr, fun h65 e65 => ?_⟩⟩
      rw [gz_k Q hr] at e63
      rw [e63, show nI (Z r) + (1 : Int32) = nI (Z r + 1) from nI_1 _, nI_clamp (by omega), mw_z Q] at e65
      rw [e65, e58, lp_MO_scale_61]
      refine ⟨fun _ => hK _ (Z r + 1) (rf_tr h1 (rf_u (by omega))) (by omega) ⟨by rw [dg_us]; omega, fun k hk => ?_, ?_, ?_⟩, fun hn => absurd (by decide) hn⟩
      · rw [dg_us] at hk
        rw [ro_u]
        by_cases z : k = Z r
        · rw [z, dg_us]; omega
        · rw [dg_un z]; exact h2 k (by omega)
      · rw [dg_us, Nat.add_sub_cancel, ro_u, dg_us]
        exact Or.inr hc
      · rw [dg_us, ro_u]
        show _ = dg_v 10000 _ (Z r) + dg_u _ (Z r) c (Z r) * 10000 ^ Z r
        rw [dg_us_v (Nat.le_refl _), dg_us]
        exact h4.symm
/-- parts(r, by) -/
theorem s_parts_a (Q : mo_Q h m A) {r V by' : Nat} (hr : r < 18) (R : mr_D D Z r V) (h0 : 0 < by') (hb : by' ≤ 65536) {xt : Nat → Int32 → Int32 → ah_H → Prop} {K : Int32 → ah_H → Prop}
    (hx : ∀ (D' : Nat → Nat) (c : Nat), rf_D r D D' → (∀ j, j < Z r → ro_n D' r j < 10000) → c < by' → V = dg_v 10000 (ro_n D' r) (Z r) * by' + c → xt m (nI r) (nI c) (mh_S h A D' Z G)) :
    ∀ (i : Nat) (D' : Nat → Nat) (c : Nat), i ≤ Z r → rf_D r D D' → (∀ j, j < Z r → ro_n D' r j < 10000) → (∀ j, j < i → ro_n D' r j = ro_n D r j) → c < by' → du_v 10000 (ro_n D r) i (Z r) = du_v 10000 (ro_n D' r) i (Z r) * by' + c → lp_MO_parts_12 xt K (i + 1) m (nI r) (nI by') (nI c) (nI i - 1) (mh_S h A D' Z G) := by
  have hz := R.1
  intro i
  induction i with
  | zero =>
    intro D' c _ h1 h2 _ h3 h4
    rw [du_0, du_0] at h4
    rw [lp_MO_parts_12]
    exact ⟨fun _ => hx D' c h1 h2 h3 (by rw [R.2.2.2]; exact h4), fun hc => absurd (by decide) hc⟩
  | succ i ih =>
    intro D' c hi h1 h2 h2' h3 h4
    have hdi := R.2.1 i (by omega)
    have hei : ro_n D' r i = ro_n D r i := h2' i (by omega)
    have hs : c * 10000 + ro_n D r i < by' * 10000 := by omega
    have hq : (c * 10000 + ro_n D r i) / by' < 10000 := Nat.div_lt_of_lt_mul hs
    have hv : vp_in ((1300 : Int32) * nI r + nI i) (ah_N (mh_S h A D' Z G) A.1) := by rw [ix_k]; exact in_d Q (by omega)
    have hne : ¬ nI by' = 0 := nI_ne0 h0 (by omega)
    have hdu : du_v 10000 (ro_n D r) i (Z r) = du_v 10000 (dg_u (ro_n D' r) i ((c * 10000 + ro_n D r i) / by')) i (Z r) * by' + (c * 10000 + ro_n D r i) % by' := by
      rw [du_s (show i < Z r by omega), du_s (d := dg_u (ro_n D' r) i _) (show i < Z r by omega), dg_us, du_cg (d := dg_u (ro_n D' r) i _) (e := ro_n D' r) (i := i + 1) (fun j hj _ => dg_un (by omega))]
      exact sd_step h0 h4
    have ih' := ih (dg_u D' (1300 * r + i) ((c * 10000 + ro_n D r i) / by')) ((c * 10000 + ro_n D r i) % by') (by omega) (rf_tr h1 (rf_u (by omega))) (fun j hj => by
      rw [ro_u]
      by_cases z : j = i
      · rw [z, dg_us]; exact hq
      · rw [dg_un z]; exact h2 j hj) (fun j hj => by rw [ro_u, dg_un (by omega)]; exact h2' j (by omega)) (Nat.mod_lt _ h0) (by rw [ro_u]; exact hdu)
    rw [nI_m1 (n := i + 1) (by omega), Nat.add_sub_cancel, lp_MO_parts_12]
    refine ⟨fun hc => absurd hc (nI_pos (by omega)), fun _ => ⟨(mh_Q Q).1, s_mat Q hr (by omega) R.1 (fun _ v22 e22 => ⟨A.1, (mh_Q Q).2.1.1, hne, fun v26 e26 => ⟨(mh_Q Q).2.2.1.1, hv, fun h29 e29 => ⟨hne, fun v34 e34 v35 e35 => ?_⟩⟩⟩)⟩⟩
    have e22' : v22 = nI (c * 10000 + ro_n D r i) := by
      rw [e22, rd_ro (by omega), hei]
      show nI c * nI 10000 + _ = _
      rw [pk_mul, nI_add]
    generalize c * 10000 + ro_n D r i = s at *
    rw [e22', pk_div (by omega) h0 (by omega)] at e26
    rw [e22', pk_rem (by omega) h0 (by omega)] at e34
    rw [e26, ix_k, nI_clamp (by omega), mw_d Q] at e29
    rw [e29, e34, e35, ← Int32.sub_eq_add_neg]
    exact ih'
theorem s_parts (Q : mo_Q h m A) {r V by' : Nat} (hr : r < 18) (R : mr_D D Z r V) (h0 : 0 < by') (hb : by' ≤ 65536) {K : Int32 → ah_H → Prop} (hK : ∀ (D' : Nat → Nat) (n : Nat), rf_D r D D' → mr_D D' (dg_u Z r n) r (V / by') → K (nI (V % by')) (mh_S h A D' (dg_u Z r n) (tm_g G r n))) : w_MO_parts m (nI r) (nI by') (mh_S h A D Z G) K := by
  have hz := R.1
  refine ⟨(mh_Q Q).1, A.2.1, (mh_Q Q).2.1.2.1, (mh_Q Q).2.2.1.2.1, in_z Q hr, fun v9 e9 => ?_⟩
  rw [gz_k Q hr] at e9
  rw [e9]
  refine ⟨Z r + 1, s_parts_a Q hr R h0 hb (fun D' c h1 h2 h3 h4 => ⟨(mh_Q Q).1, A.2.1, (mh_Q Q).2.1.2.1, (mh_Q Q).2.2.1.2.1, in_z Q hr, ?_⟩) (Z r) D 0 (Nat.le_refl _) rf_rf R.2.1 (fun _ _ => rfl) h0 (by rw [du_n]; omega)⟩
  rw [gz_k Q hr]
  refine s_trim Q hr R.1 h2 (fun _ => ?_)
  have e1 : V / by' = dg_v 10000 (ro_n D' r) (Z r) := by
    rw [h4, Nat.mul_comm, Nat.mul_add_div h0, Nat.div_eq_of_lt h3, Nat.add_zero]
  have e2 : V % by' = c := by
    rw [h4, Nat.mul_comm, Nat.mul_add_mod, Nat.mod_eq_of_lt h3]
  have := hK D' (tr_n (ro_n D' r) (Z r)) h1 (by rw [e1]; exact tr_mr R.1 h2)
  rw [e2] at this
  exact this
end MO2
