section MO4
variable {h : ah_H} {m : Nat} {A : Nat × Nat × Nat} {D Z : Nat → Nat} {G : Nat → Int32}
theorem fin_mz {to n W : Nat} {zr : Int} {sg : Int32} {D' : Nat → Nat} (M : mr_D D' (dg_u Z to n) to W) (hW : W = zr.natAbs) (hs : zr ≠ 0 → sg = sI_n zr) : mz_D D' (dg_u Z to n) (tm_g (upd G to sg) to n) to zr := by
  subst hW
  refine ⟨M, ?_⟩
  have h0 := mr_0 M
  rw [dg_us] at h0
  by_cases hn : n = 0
  · have hz : zr = 0 := by have := h0.mpr hn; omega
    rw [hn, tm_0, sI_0.mpr hz]
  · have hz : zr ≠ 0 := by
      intro z
      exact hn (h0.mp (by rw [z]; rfl))
    rw [tm_1 hn, pk_us]; exact hs hz
theorem tu_ne {to n : Nat} {x : Int32} : ∀ s, s ≠ to → tm_g (upd G to x) to n s = G s := fun s hs => (tm_ne s hs).trans (pk_un hs)
theorem or_nn {r : Int32} {x y : Nat} (H : or_N r x y) (hr : ¬ r < 0) : y ≤ x := by
  rcases H with ⟨e, z⟩ | ⟨e, z⟩ | ⟨e, z⟩
  · rw [e] at hr; exact absurd (by decide) hr
  · omega
  · omega
theorem or_neg {r : Int32} {x y : Nat} (H : or_N r x y) (hr : r < 0) : x < y := by
  rcases H with ⟨e, z⟩ | ⟨e, z⟩ | ⟨e, z⟩
  · exact z
  · rw [e] at hr; exact absurd hr (by decide)
  · rw [e] at hr; exact absurd hr (by decide)
theorem s_summ (Q : mo_Q h m A) {x y : Nat} (hx : x < 17) (hy : y < 17) {zx zy s : Int} (hs : s = 1 ∨ s = -1) (X : mz_D D Z G x zx) (Y : mz_D D Z G y zy) (szx : Z x < 1300) (szy : Z y < 1300) {K : ah_H → Prop}
    (hK : ∀ (D' Z' : Nat → Nat) (G' : Nat → Int32), mf_S (· = 17) D Z G D' Z' G' → mz_D D' Z' G' 17 (zx + s * zy) → K (mh_S h A D' Z' G')) : w_MO_sum m (nI x) (nI y) (oI s) (mh_S h A D Z G) K := by
  have es : oI s = sI_n s := by rcases hs with z | z <;> subst z <;> rfl
  have hat : (s * zy).natAbs = zy.natAbs := by rcases hs with z | z <;> subst z <;> omega
  obtain ⟨t, ht⟩ : ∃ t, t = s * zy := ⟨_, rfl⟩
  rw [← ht] at hat hK
  have b45 : t ≠ 0 → (zx = 0 ∨ sI_n zx = sI_n t) → bk_MO_sum_45 K m (nI x) (nI y) (sI_n t) (mh_S h A D Z G) := by
    intro h1 h2
    refine ⟨(mh_Q Q).1, A.2.2, (mh_Q Q).2.1.2.2, (mh_Q Q).2.2.1.2.2, in_g (i := 17) Q (by decide), fun h27 e27 => ?_⟩
    rw [show (17 : Int32).toNatClampNeg = 17 from rfl, mw_g] at e27
    rw [e27]
    have hr : (zx + t).natAbs = zx.natAbs + zy.natAbs ∧ sI_n t = sI_n (zx + t) := by
      rcases h2 with z | z
      · rw [z]; constructor
        · omega
        · rw [Int.zero_add]
      · rcases Int.lt_trichotomy t 0 with a | a | a
        · rw [sI_m.mpr a] at z ⊢
          have := sI_m.mp z
          exact ⟨by omega, (sI_m.mpr (by omega)).symm⟩
        · exact absurd a h1
        · rw [sI_p.mpr a] at z ⊢
          have := sI_p.mp z
          exact ⟨by omega, (sI_p.mpr (by omega)).symm⟩
    refine s_joins (to := 17) (s := 1) (W := zx.natAbs + zy.natAbs) Q (Or.inl rfl) (by omega) (by decide) (by omega) (by omega) (by omega) (by omega) X.1 Y.1 szx szy (fun D' n f1 M _ => hK _ _ _ (mf_of f1 tu_ne) (fin_mz M hr.1.symm (fun _ => hr.2)))
  have b96 : ∀ r : Int32, or_N r zx.natAbs zy.natAbs → sI_n zx ≠ sI_n t → zx ≠ 0 → t ≠ 0 → (r < 0 → bk_MO_sum_96 K m (nI x) (nI y) r (sI_n t) (17 : Int32) A.2.2 (mh_S h A D Z G)) ∧ (¬ r < 0 → bk_MO_sum_96 K m (nI x) (nI y) r (sI_n zx) (17 : Int32) A.2.2 (mh_S h A D Z G)) := by
    intro r hr hne hzx ht0
    have opp : (zx < 0 ∧ 0 < t) ∨ (0 < zx ∧ t < 0) := by
      rcases Int.lt_trichotomy zx 0 with a | a | a
      · left; refine ⟨a, ?_⟩
        rcases Int.lt_trichotomy t 0 with b | b | b
        · exact absurd ((sI_m.mpr a).trans (sI_m.mpr b).symm) hne
        · exact absurd b ht0
        · exact b
      · exact absurd a hzx
      · right; refine ⟨a, ?_⟩
        rcases Int.lt_trichotomy t 0 with b | b | b
        · exact b
        · exact absurd b ht0
        · exact absurd ((sI_p.mpr a).trans (sI_p.mpr b).symm) hne
    refine ⟨fun hlt => ⟨(mh_Q Q).2.2.1.2.2, in_g (i := 17) Q (by decide), fun h61 e61 => ⟨fun _ => ⟨by rw [e61, show (17 : Int32).toNatClampNeg = 17 from rfl, mw_g]; exact (mh_Q Q).1, ?_⟩, fun hc => absurd hlt hc⟩⟩, fun hge => ⟨(mh_Q Q).2.2.1.2.2, in_g (i := 17) Q (by decide), fun h61 e61 => ⟨fun hc => absurd hc hge, fun _ => ⟨by rw [e61, show (17 : Int32).toNatClampNeg = 17 from rfl, mw_g]; exact (mh_Q Q).1, ?_⟩⟩⟩⟩
    · have hl := or_neg hr hlt
      rw [show (17 : Int32).toNatClampNeg = 17 from rfl, mw_g] at e61
      rw [e61]
      refine s_joins (to := 17) (s := -1) (W := zy.natAbs - zx.natAbs) Q (Or.inr ⟨rfl, by omega⟩) (by omega) (by decide) (by omega) (by omega) (by omega) (by omega) Y.1 X.1 szy szx (fun D' n f1 M _ => hK _ _ _ (mf_of f1 tu_ne) (fin_mz M (by omega) (fun _ => ?_)))
      rcases opp with ⟨a, b⟩ | ⟨a, b⟩
      · rw [sI_p.mpr b, sI_p.mpr (by omega)]
      · rw [sI_m.mpr b, sI_m.mpr (by omega)]
    · have hl := or_nn hr hge
      rw [show (17 : Int32).toNatClampNeg = 17 from rfl, mw_g] at e61
      rw [e61]
      refine s_joins (to := 17) (s := -1) (W := zx.natAbs - zy.natAbs) Q (Or.inr ⟨rfl, by omega⟩) (by omega) (by decide) (by omega) (by omega) (by omega) (by omega) X.1 Y.1 szx szy (fun D' n f1 M _ => hK _ _ _ (mf_of f1 tu_ne) (fin_mz M (by omega) (fun hz => ?_)))
      rcases opp with ⟨a, b⟩ | ⟨a, b⟩
      · rw [sI_m.mpr a, sI_m.mpr (by omega)]
      · rw [sI_p.mpr a, sI_p.mpr (by omega)]
  refine ⟨(mh_Q Q).1, A.2.2, (mh_Q Q).2.1.2.2, (mh_Q Q).2.2.1.2.2, in_g Q (by omega), fun v10 e10 => ?_⟩
  rw [gg_k Q (by omega), Y.2, es, sI_mul, ← ht] at e10
  rw [e10]
  refine ⟨fun hne => ⟨A.2.2, (mh_Q Q).2.1.2.2, (mh_Q Q).2.2.1.2.2, in_g Q (by omega), fun h0 => ?_, fun hn0 => ⟨A.2.2, (mh_Q Q).2.1.2.2, (mh_Q Q).2.2.1.2.2, in_g Q (by omega), fun hd => ?_, fun he => ?_⟩⟩, fun he => ?_⟩
  · rw [gg_k Q (by omega), X.2] at h0
    exact b45 (fun z => hne (sI_0.mpr z)) (Or.inl (sI_0.mp h0))
  · rw [gg_k Q (by omega), X.2] at hn0 hd
    refine s_against Q (by omega) (by omega) X.1 Y.1 (fun r hr _ => ⟨A.2.2, (mh_Q Q).2.1.2.2, fun hlt => ?_, fun hge => ⟨A.2.2, (mh_Q Q).2.1.2.2, (mh_Q Q).2.2.1.2.2, in_g Q (by omega), ?_⟩⟩)
    · exact (b96 r hr hd (fun z => hn0 (sI_0.mpr z)) (fun z => hne (sI_0.mpr z))).1 hlt
    · rw [gg_k Q (by omega), X.2]
      exact (b96 r hr hd (fun z => hn0 (sI_0.mpr z)) (fun z => hne (sI_0.mpr z))).2 hge
  · rw [gg_k Q (by omega), X.2] at hn0 he
    exact b45 (fun z => hne (sI_0.mpr z)) (Or.inr he)
  · have ht0 : t = 0 := sI_0.mp he
    refine z_copyRow (to := 17) Q (by decide) (by omega) X.1 (fun D' Z' G' f M g _ => hK _ _ _ f ⟨?_, ?_⟩)
    · rw [ht0, Int.add_zero]; exact M
    · rw [ht0, Int.add_zero, g]; exact X.2
/-- product(x, y) -/
theorem e17_k (k : Nat) : (22100 : Int32) + nI k = nI (1300 * 17 + k) := by
  show nI 22100 + nI k = _
  rw [nI_add]
theorem s_pr_z (Q : mo_Q h m A) {N : Nat} (hN : N ≤ 1300) {x y : Int32} {xt : Nat → Int32 → Int32 → Int32 → ah_H → Prop} {K : ah_H → Prop}
    (hx : ∀ D' : Nat → Nat, rf_D 17 D D' → (∀ j, j < N → ro_n D' 17 j = 0) → xt m x y (nI N) (mh_S h A D' Z G)) :
    ∀ (k i : Nat) (D' : Nat → Nat), N = i + k → rf_D 17 D D' → (∀ j, j < i → ro_n D' 17 j = 0) → ∃ n, lp_MO_product_17 xt K n m x y (nI N) (nI i) (mh_S h A D' Z G) := by
  intro k
  induction k with
  | zero =>
    intro i D' hi h1 h2
    have e0 : i = N := by omega
    subst e0
    refine ⟨0 + 1, ?_⟩
    rw [lp_MO_product_17]
    exact ⟨fun _ => hx D' h1 h2, fun hc => absurd (nI_le (Nat.le_refl _) (by omega)) hc⟩
  | succ k ih =>
    intro i D' hi h1 h2
    obtain ⟨n, hn⟩ := ih (i + 1) (dg_u D' (1300 * 17 + i) 0) (by omega) (rf_tr h1 (rf_u (by omega))) (fun j hj => by
      rw [ro_u]
      by_cases z : j = i
      · rw [z, dg_us]
      · rw [dg_un z]; exact h2 j (by omega))
    refine ⟨n + 1, ?_⟩
    rw [lp_MO_product_17]
    refine ⟨fun hc => absurd hc (nI_ge (by omega) (by omega)), fun _ => ⟨(mh_Q Q).1, A.1, (mh_Q Q).2.1.1, (mh_Q Q).2.2.1.1, by rw [e17_k]; exact in_d Q (by omega), fun h26 e26 v30 e30 => ?_⟩⟩
    rw [e17_k, nI_clamp (by omega), ← nI_0, mw_d Q] at e26
    rw [e26, e30, nI_1]
    exact hn
theorem pv_lt {f d e c : Nat} (hf : f < 10000) (hd : d < 10000) (he : e < 10000) (hc : c < 10000) : f * d + e + c < 100000000 := by
  have h1 : f * d ≤ 9999 * 9999 := Nat.mul_le_mul (by omega) (by omega)
  omega
theorem s_pr_i (Q : mo_Q h m A) {x y i u v : Nat} (hx : x < 17) (hy : y < 17) (X : mr_D D Z x u) (Y : mr_D D Z y v) (hi : i < Z x) (hN : Z x + Z y ≤ 1300) {D0 : Nat → Nat} (f0 : rf_D 17 D D0) (he0 : ∀ l, l < i + Z y → ro_n D0 17 l < 10000) {nn : Int32} {xt : Nat → Int32 → Int32 → Int32 → Int32 → Int32 → ah_H → Prop} {K : ah_H → Prop}
    (hxt : ∀ (D' : Nat → Nat) (c : Nat), rf_D 17 D D' → (∀ l, l < i + Z y → ro_n D' 17 l < 10000) → c < 10000 → dg_v 10000 (ro_n D' 17) (i + Z y) + c * 10000 ^ (i + Z y) = dg_v 10000 (ro_n D0 17) (i + Z y) + ro_n D x i * dg_v 10000 (ro_n D y) (Z y) * 10000 ^ i → xt m (nI x) (nI y) nn (nI i) (nI c) (mh_S h A D' Z G)) :
    ∀ (k j : Nat) (D' : Nat → Nat) (c : Nat), Z y = j + k → rf_D 17 D D' → (∀ l, l < i + j → ro_n D' 17 l < 10000) → (∀ l, i + j ≤ l → ro_n D' 17 l = ro_n D0 17 l) → c < 10000 → dg_v 10000 (ro_n D' 17) (i + j) + c * 10000 ^ (i + j) = dg_v 10000 (ro_n D0 17) (i + j) + ro_n D x i * dg_v 10000 (ro_n D y) j * 10000 ^ i → lp_MO_product_61 xt K (k + 1) m (nI x) (nI y) nn (nI i) (nI c) (nI j) (mh_S h A D' Z G) := by
  have zx := X.1
  have zy := Y.1
  intro k
  induction k with
  | zero =>
    intro j D' c hj f1 h1 h2 h3 h4
    have e0 : j = Z y := by omega
    subst e0
    rw [lp_MO_product_61]
    refine ⟨(mh_Q Q).1, A.2.1, (mh_Q Q).2.1.2.1, (mh_Q Q).2.2.1.2.1, in_z Q (by omega), fun _ => hxt D' c f1 h1 h3 h4, fun hc => absurd ?_ hc⟩
    rw [gz_k Q (by omega)]; exact nI_le (Nat.le_refl _) (by omega)
  | succ k ih =>
    intro j D' c hj f1 h1 h2 h3 h4
    have ix : ((22100 : Int32) + nI i) + nI j = nI (1300 * 17 + (i + j)) := by rw [e17_k, nI_add, Nat.add_assoc]
    have hv : vp_in (((22100 : Int32) + nI i) + nI j) (ah_N (mh_S h A D' Z G) A.1) := by rw [ix]; exact in_d Q (by omega)
    have a1 := X.2.1 i hi
    have b1 := Y.2.1 j (by omega)
    have s1 := pv_lt a1 b1 (he0 (i + j) (by omega)) h3
    have ih' := ih (j + 1) (dg_u D' (1300 * 17 + (i + j)) ((ro_n D x i * ro_n D y j + ro_n D0 17 (i + j) + c) % 10000)) ((ro_n D x i * ro_n D y j + ro_n D0 17 (i + j) + c) / 10000) (by omega) (rf_tr f1 (rf_u (by omega))) (fun l hl => by
      rw [ro_u]
      by_cases z : l = i + j
      · rw [z, dg_us]; omega
      · rw [dg_un z]; exact h1 l (by omega)) (fun l hl => by rw [ro_u, dg_un (by omega)]; exact h2 l (by omega)) (by omega) (by
      rw [ro_u]
      exact mr_step rfl h4)
    rw [lp_MO_product_61]
    refine ⟨(mh_Q Q).1, A.2.1, (mh_Q Q).2.1.2.1, (mh_Q Q).2.2.1.2.1, in_z Q (by omega), fun hc => ?_, fun _ => ⟨A.1, (mh_Q Q).2.1.1, (mh_Q Q).2.2.1.1, hv, s_mat Q (by omega) (by omega) X.1 (fun _ => s_mat Q (by omega) (by omega) Y.1 (fun _ v78 e78 => ⟨A.1, (mh_Q Q).2.1.1, fun v81 e81 => ⟨(mh_Q Q).2.2.1.1, hv, fun h84 e84 v90 e90 v91 e91 => ?_⟩⟩))⟩⟩
    · rw [gz_k Q (by omega)] at hc
      exact absurd hc (nI_ge (by omega) (by omega))
    · have ev : v78 = nI (ro_n D x i * ro_n D y j + ro_n D0 17 (i + j) + c) := by
        rw [e78, ix, gd_k Q (by omega), rf_rd f1 (by omega) X.1, rf_rd f1 (by omega) Y.1, rd_ro hi, rd_ro (by omega), pk_mul, nI_add, nI_add]
        congr 2
        rw [Nat.add_comm]
        congr 1
        exact h2 (i + j) (Nat.le_refl _)
      generalize ro_n D x i * ro_n D y j + ro_n D0 17 (i + j) + c = s at *
      rw [ev] at e81 e90
      rw [show nI s - nI s / (10000 : Int32) * (10000 : Int32) = nI (s % 10000) from pk_rem (d := 10000) (by omega) (by decide) (by decide)] at e81
      rw [show nI s / (10000 : Int32) = nI (s / 10000) from pk_div (d := 10000) (by omega) (by decide) (by decide)] at e90
      rw [e81, ix, nI_clamp (by omega), mw_d Q] at e84
      rw [e84, e90, e91, nI_1]
      exact ih'
theorem s_product_m (Q : mo_Q h m A) {x y : Nat} (hx : x < 17) (hy : y < 17) {zx zy : Int} (X : mz_D D Z G x zx) (Y : mz_D D Z G y zy) (hN : Z x + Z y ≤ 1300) {K : ah_H → Prop}
    (hK : ∀ (D' Z' : Nat → Nat) (G' : Nat → Int32), mf_S (· = 17) D Z G D' Z' G' → mz_D D' Z' G' 17 (zx * zy) → K (mh_S h A D' Z' G')) : w_MO_product m (nI x) (nI y) (mh_S h A D Z G) K := by
  refine ⟨(mh_Q Q).1, A.2.1, (mh_Q Q).2.1.2.1, (mh_Q Q).2.2.1.2.1, in_z Q (by omega), A.2.1, (mh_Q Q).2.1.2.1, (mh_Q Q).2.2.1.2.1, in_z Q (by omega), fun v13 e13 => ?_⟩
  rw [gz_k Q (by omega), gz_k Q (by omega), nI_add] at e13
  rw [e13]
  refine s_pr_z Q hN (fun D1 f1 hz => ⟨Z x + 1, ?_⟩) (Z x + Z y) 0 D (by omega) rf_rf (fun j hj => absurd hj (Nat.not_lt_zero _))
  have outer : ∀ (k i : Nat) (D' : Nat → Nat), Z x = i + k → rf_D 17 D D' → (∀ l, l < i + Z y → ro_n D' 17 l < 10000) → dg_v 10000 (ro_n D' 17) (i + Z y) = dg_v 10000 (ro_n D x) i * dg_v 10000 (ro_n D y) (Z y) → lp_MO_product_44 (fun (x115 : Nat) (x116 : Int32) (x117 : Int32) (x118 : Int32) h119 => ah_T h119 x115 = 5 ∧ ∃ q121, ah_R h119 15 x115 = some q121 ∧ ∃ q123, ah_R h119 15 x115 = some q123 ∧ ah_T h119 q123 = 100 ∧ vp_in x116 (ah_N h119 q123) ∧ ∃ q127, ah_R h119 15 x115 = some q127 ∧ ah_T h119 q127 = 100 ∧ vp_in x117 (ah_N h119 q127) ∧ ∀ v131 : Int32, v131 = (ah_bI h119 q123 x116.toNatClampNeg) * (ah_bI h119 q127 x117.toNatClampNeg) → ah_T h119 q121 = 100 ∧ vp_in (17 : Int32) (ah_N h119 q121) ∧ ∀ h134 : ah_H, h134 = ah_cI h119 q121 (upd (ah_bI h119 q121) (17 : Int32).toNatClampNeg v131) → w_MO_trim x115 (17 : Int32) x118 h134 (fun h140 => ah_m h134 h140 → K h140)) K (k + 1) m (nI x) (nI y) (nI (Z x + Z y)) (nI i) (mh_S h A D' Z G) := by
    intro k
    induction k with
    | zero =>
      intro i D' hi f h1 h2
      have e0 : i = Z x := by omega
      subst e0
      rw [lp_MO_product_44]
      refine ⟨(mh_Q Q).1, A.2.1, (mh_Q Q).2.1.2.1, (mh_Q Q).2.2.1.2.1, in_z Q (by omega), fun _ => ⟨(mh_Q Q).1, A.2.2, (mh_Q Q).2.1.2.2, A.2.2, (mh_Q Q).2.1.2.2, (mh_Q Q).2.2.1.2.2, in_g Q (by omega), A.2.2, (mh_Q Q).2.1.2.2, (mh_Q Q).2.2.1.2.2, in_g Q (by omega), fun v131 e131 => ⟨(mh_Q Q).2.2.1.2.2, in_g (i := 17) Q (by decide), fun h134 e134 => ?_⟩⟩, fun hc => absurd ?_ hc⟩
      · rw [gg_k Q (by omega), gg_k Q (by omega), X.2, Y.2, sI_mul] at e131
        rw [e131, show (17 : Int32).toNatClampNeg = 17 from rfl, mw_g] at e134
        rw [e134]
        refine s_trim (r := 17) Q (by decide) hN h1 (fun _ => hK _ _ _ (mf_of f tu_ne) (fin_mz (tr_mr hN h1) ?_ (fun _ => rfl)))
        rw [h2, ← X.1.2.2.2, ← Y.1.2.2.2, Int.natAbs_mul]
      · rw [gz_k Q (by omega)]; exact nI_le (Nat.le_refl _) (by omega)
    | succ k ih =>
      intro i D' hi f h1 h2
      rw [lp_MO_product_44]
      refine ⟨(mh_Q Q).1, A.2.1, (mh_Q Q).2.1.2.1, (mh_Q Q).2.2.1.2.1, in_z Q (by omega), fun hc => ?_, fun _ => ⟨Z y + 1, s_pr_i Q hx hy X.1 Y.1 (by omega) hN f h1 (fun D2 c f2 g1 g2 g3 => ?_) (Z y) 0 D' 0 (by omega) f (fun l hl => h1 l (by omega)) (fun _ _ => rfl) (by decide) ?_⟩⟩
      · rw [gz_k Q (by omega)] at hc
        exact absurd hc (nI_ge (by omega) (by omega))
      · have ix : ((22100 : Int32) + nI i) + nI (Z y) = nI (1300 * 17 + (i + Z y)) := by rw [e17_k, nI_add, Nat.add_assoc]
        refine ⟨(mh_Q Q).1, A.1, (mh_Q Q).2.1.1, A.2.1, (mh_Q Q).2.1.2.1, (mh_Q Q).2.2.1.2.1, in_z Q (by omega), (mh_Q Q).2.2.1.1, ?_, fun h108 e108 v113 e113 => ?_⟩
        · rw [gz_k Q (by omega), ix]; exact in_d Q (by omega)
        · rw [gz_k Q (by omega), ix, nI_clamp (by omega), mw_d Q] at e108
          rw [e108, e113, nI_1]
          refine ih (i + 1) _ (by omega) (rf_tr f2 (rf_u (by omega))) (fun l hl => ?_) ?_
          · rw [ro_u]
            by_cases z : l = i + Z y
            · rw [z, dg_us]; exact g2
            · rw [dg_un z]; exact g1 l (by omega)
          · rw [ro_u, show i + 1 + Z y = i + Z y + 1 by omega]
            show dg_v 10000 _ (i + Z y) + dg_u _ (i + Z y) c (i + Z y) * 10000 ^ (i + Z y) = (dg_v 10000 (ro_n D x) i + ro_n D x i * 10000 ^ i) * _
            rw [dg_us_v (Nat.le_refl _), dg_us, g3, h2, Nat.add_mul, Nat.mul_right_comm (ro_n D x i)]
      · show _ = _ + ro_n D x i * 0 * 10000 ^ i
        rw [Nat.mul_zero, Nat.zero_mul, Nat.zero_mul, Nat.add_zero, Nat.add_zero]
  refine outer (Z x) 0 D1 (by omega) f1 (fun l hl => by rw [hz l (by omega)]; decide) ?_
  show _ = 0 * _
  rw [Nat.zero_mul]
  exact dg_0 (fun l hl => hz l (by omega))
end MO4
