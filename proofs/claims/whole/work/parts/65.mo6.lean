section MO6
variable {h : ah_H} {m : Nat} {A : Nat × Nat × Nat} {D Z : Nat → Nat} {G : Nat → Int32}
theorem c15_k (k : Nat) : (19500 : Int32) + nI k = nI (1300 * 15 + k) := by
  show nI 19500 + nI k = _
  rw [nI_add]
def cd_R : Nat → Prop := fun r => r = 15 ∨ r = 16
theorem s_qu_z (Q : mo_Q h m A) {N : Nat} (hN : N ≤ 1300) {x y : Int32} {xt : Nat → Int32 → Int32 → Int32 → ah_H → Prop} {K : ah_H → Prop}
    (hx : ∀ D' : Nat → Nat, rf_D 15 D D' → (∀ j, j < N → ro_n D' 15 j = 0) → xt m x y (nI N) (mh_S h A D' Z G)) :
    ∀ (k i : Nat) (D' : Nat → Nat), N = i + k → rf_D 15 D D' → (∀ j, j < i → ro_n D' 15 j = 0) → ∃ n, lp_MO_quotient_10 xt K n m x y (nI N) (nI i) (mh_S h A D' Z G) := by
  intro k
  induction k with
  | zero =>
    intro i D' hi h1 h2
    have e0 : i = N := by omega
    subst e0
    refine ⟨0 + 1, ?_⟩
    rw [lp_MO_quotient_10]
    exact ⟨fun _ => hx D' h1 h2, fun hc => absurd (nI_le (Nat.le_refl _) (by omega)) hc⟩
  | succ k ih =>
    intro i D' hi h1 h2
    obtain ⟨n, hn⟩ := ih (i + 1) (dg_u D' (1300 * 15 + i) 0) (by omega) (rf_tr h1 (rf_u (by omega))) (fun j hj => by
      rw [ro_u]
      by_cases z : j = i
      · rw [z, dg_us]
      · rw [dg_un z]; exact h2 j (by omega))
    refine ⟨n + 1, ?_⟩
    rw [lp_MO_quotient_10]
    refine ⟨fun hc => absurd hc (nI_ge (by omega) (by omega)), fun _ => ⟨(mh_Q Q).1, A.1, (mh_Q Q).2.1.1, (mh_Q Q).2.2.1.1, by rw [c15_k]; exact in_d Q (by omega), fun h26 e26 v30 e30 => ?_⟩⟩
    rw [c15_k, nI_clamp (by omega), ← nI_0, mw_d Q] at e26
    rw [e26, e30, nI_1]
    exact hn
theorem s_qu_s (Q : mo_Q h m A) {s : Nat} (hs : s < 1300) {x y n k : Int32} {xt : Nat → Int32 → Int32 → Int32 → Int32 → ah_H → Prop} {K : ah_H → Prop}
    (hx : ∀ D' : Nat → Nat, rf_D 16 D D' → (∀ j, j < s → ro_n D' 16 (j + 1) = ro_n D 16 j) → xt m x y n k (mh_S h A D' Z G)) :
    ∀ (i : Nat) (D' : Nat → Nat), i ≤ s → rf_D 16 D D' → (∀ j, i ≤ j → j < s → ro_n D' 16 (j + 1) = ro_n D 16 j) → (∀ j, j ≤ i → ro_n D' 16 j = ro_n D 16 j) → ∃ f, lp_MO_quotient_61 xt K f m x y n k (nI i) (mh_S h A D' Z G) := by
  intro i
  induction i with
  | zero =>
    intro D' _ h1 h2 _
    refine ⟨0 + 1, ?_⟩
    rw [lp_MO_quotient_61]
    exact ⟨fun _ => hx D' h1 (fun j hj => h2 j (Nat.zero_le _) hj), fun hc => absurd (by decide) hc⟩
  | succ i ih =>
    intro D' hi h1 h2 h3
    obtain ⟨f, hf⟩ := ih (dg_u D' (1300 * 16 + (i + 1)) (D' (1300 * 16 + i))) (by omega) (rf_tr h1 (rf_u (by omega))) (fun j a b => by
      rw [ro_u]
      by_cases z : j = i
      · rw [z, dg_us]; exact h3 i (by omega)
      · rw [dg_un (by omega)]; exact h2 j (by omega) b) (fun j hj => by rw [ro_u, dg_un (by omega)]; exact h3 j (by omega))
    have ei : ((20800 : Int32) + nI (i + 1)) - (1 : Int32) = nI (1300 * 16 + i) := by
      rw [d16_k, nI_m1 (by omega)]
      congr 1
    refine ⟨f + 1, ?_⟩
    rw [lp_MO_quotient_61]
    refine ⟨fun hc => absurd hc (nI_nle (by omega) (by omega)), fun _ => ⟨(mh_Q Q).1, A.1, (mh_Q Q).2.1.1, A.1, (mh_Q Q).2.1.1, (mh_Q Q).2.2.1.1, by rw [ei]; exact in_d Q (by omega), fun v70 e70 => ⟨(mh_Q Q).2.2.1.1, by rw [d16_k]; exact in_d Q (by omega), fun h73 e73 v78 e78 => ?_⟩⟩⟩
    rw [ei, gd_k Q (by omega)] at e70
    rw [e70, d16_k, nI_clamp (by omega), mw_d Q] at e73
    rw [e73, e78, ← Int32.sub_eq_add_neg, nI_m1 (by omega), Nat.add_sub_cancel]
    exact hf
theorem s_qu_w (Q : mo_Q h m A) {y v w1 k : Nat} (hy : y < 15) (hv : 0 < v) (hw1 : w1 < v * 10000) (hk : k < 1300) {x n : Int32} {xt : Nat → Int32 → Int32 → Int32 → Int32 → ah_H → Prop} {K : ah_H → Prop}
    (hxt : ∀ (D' Z' : Nat → Nat) (G' : Nat → Int32) (w : Nat), mf_S cd_R D Z G D' Z' G' → (∀ j, j < 1300 → j ≠ k → ro_n D' 15 j = ro_n D 15 j) → mr_D D' Z' 16 w → w < v → ro_n D' 15 k * v + w = w1 → xt m x (nI y) n (nI k) (mh_S h A D' Z' G')) :
    ∀ (N : Nat) (D' Z' : Nat → Nat) (G' : Nat → Int32) (w : Nat), w / v < N → mf_S cd_R D Z G D' Z' G' → (∀ j, j < 1300 → j ≠ k → ro_n D' 15 j = ro_n D 15 j) → mr_D D' Z' y v → mr_D D' Z' 16 w → ro_n D' 15 k * v + w = w1 → lp_MO_quotient_126 xt K N m x (nI y) n (nI k) (mh_S h A D' Z' G') := by
  intro N
  induction N with
  | zero =>
    intro D' Z' G' w hN
    exact absurd hN (Nat.not_lt_zero _)
  | succ N ih =>
    intro D' Z' G' w hN f h1 Y W e
    rw [lp_MO_quotient_126]
    refine ⟨(mh_Q Q).1, s_against (x := 16) Q (by decide) (by omega) W Y (fun r hr _ => ⟨fun hl => hxt D' Z' G' w f h1 W (or_neg hr hl) e, fun hl => ?_⟩)⟩
    have hle := or_nn hr hl
    have hwl : w < v * 10000 := by
      have : 0 ≤ ro_n D' 15 k * v := Nat.zero_le _
      omega
    refine s_guess_m Q (by omega) Y W hv hle hwl (fun q q1 q2 q3 _ => ?_)
    have hcq : ro_n D' 15 k + q < 10000 := by
      apply Nat.lt_of_not_le
      intro z
      have h2 : 10000 * v ≤ (ro_n D' 15 k + q) * v := Nat.mul_le_mul_right _ z
      rw [Nat.add_mul] at h2
      omega
    have hv15 : vp_in ((19500 : Int32) + nI k) (ah_N (mh_S h A D' Z' G') A.1) := by rw [c15_k]; exact in_d Q (by omega)
    refine ⟨A.1, (mh_Q Q).2.1.1, (mh_Q Q).2.2.1.1, hv15, fun v127 e127 => ⟨hv15, fun h129 e129 => ?_⟩⟩
    rw [c15_k, gd_k Q (by omega), nI_add] at e127
    rw [e127, c15_k, nI_clamp (by omega), mw_d Q] at e129
    rw [e129]
    have f15 : rf_D 15 D' (dg_u D' (1300 * 15 + k) (D' (1300 * 15 + k) + q)) := rf_u hk
    have Y1 : mr_D (dg_u D' (1300 * 15 + k) (D' (1300 * 15 + k) + q)) Z' y v := rf_mr f15 (by omega) rfl Y
    have W1 : mr_D (dg_u D' (1300 * 15 + k) (D' (1300 * 15 + k) + q)) Z' 16 w := rf_mr f15 (by omega) rfl W
    have hz : Z' y ≤ Z' 16 := by
      apply Nat.le_of_not_lt
      intro z
      have := mr_sz W Y z
      omega
    refine s_lessens Q (by omega) (by omega) Y1 W1 q2 hz q3 (fun D2 n2 f2 M2 _ => ?_)
    have e15 : ∀ j, j < 1300 → ro_n D2 15 j = ro_n (dg_u D' (1300 * 15 + k) (D' (1300 * 15 + k) + q)) 15 j := fun j hj => rf_ro f2 (by decide) hj
    have hq0 : v ≤ q * v := Nat.le_mul_of_pos_left _ q1
    refine ih D2 _ _ (w - q * v) ?_ (mf_tr f ?_) (fun j hj hjk => ?_) (rf_mr f2 (by omega) (dg_un (by omega)) Y1) M2 ?_
    · have h3 : (w - q * v + v) / v = (w - q * v) / v + 1 := Nat.add_div_right _ hv
      have h4 : (w - q * v + v) / v ≤ w / v := Nat.div_le_div_right (by omega)
      omega
    · intro r hr hs
      have r15 : r ≠ 15 := fun z => hs (Or.inl z)
      have r16 : r ≠ 16 := fun z => hs (Or.inr z)
      exact ⟨dg_un r16, tm_ne r r16, fun k hk => (rf_ro f2 r16 hk).trans (rf_ro f15 r15 hk)⟩
    · rw [e15 j hj, ro_u, dg_un hjk]; exact h1 j hj hjk
    · rw [e15 k hk, ro_u, dg_us]
      show (ro_n D' 15 k + q) * v + _ = w1
      rw [Nat.add_mul]; omega
theorem s_qu_o (Q : mo_Q h m A) {x y X v n : Nat} (hx : x < 15) (hy : y < 15) (hn : n = Z x) (Xr : mr_D D Z x X) (Y : mr_D D Z y v) (hv : 0 < v) (zy : Z y ≤ 1298) {xt : Nat → Int32 → ah_H → Prop} {K : ah_H → Prop}
    (hxt : ∀ (D' Z' : Nat → Nat) (G' : Nat → Int32) (w : Nat), mf_S cd_R D Z G D' Z' G' → (∀ j, j < n → ro_n D' 15 j < 10000) → mr_D D' Z' 16 w → w < v → X = dg_v 10000 (ro_n D' 15) n * v + w → xt m (nI n) (mh_S h A D' Z' G')) :
    ∀ (i : Nat) (D' Z' : Nat → Nat) (G' : Nat → Int32) (w : Nat), i ≤ n → mf_S cd_R D Z G D' Z' G' → (∀ j, j < n → ro_n D' 15 j < 10000) → (∀ j, j < i → ro_n D' 15 j = 0) → mr_D D' Z' 16 w → w < v → du_v 10000 (ro_n D x) i n = du_v 10000 (ro_n D' 15) i n * v + w → lp_MO_quotient_47 xt K (i + 1) m (nI x) (nI y) (nI n) (nI i - 1) (mh_S h A D' Z' G') := by
  have zx := Xr.1
  intro i
  induction i with
  | zero =>
    intro D' Z' G' w _ f h1 h2 W hw e
    rw [lp_MO_quotient_47]
    refine ⟨fun _ => hxt D' Z' G' w f h1 W hw ?_, fun hc => absurd (by decide) hc⟩
    rw [du_0, du_0] at e
    rw [Xr.2.2.2, ← hn]; exact e
  | succ i ih =>
    intro D' Z' G' w hi f h1 h2 W hw e
    have nx : ¬ cd_R x := fun z => by rcases z with z | z <;> omega
    have ny : ¬ cd_R y := fun z => by rcases z with z | z <;> omega
    have Y' := mf_mr f (by omega) ny Y
    have X' := mf_mr f (by omega) nx Xr
    have zy' : Z' y = Z y := (f y (by omega) ny).1
    have zx' : Z' x = Z x := (f x (by omega) nx).1
    have hs : Z' 16 ≤ Z y := by
      apply Nat.le_of_not_lt
      intro z
      have := mr_sz Y' W (by omega)
      omega
    have zw := W.1
    rw [nI_m1 (n := i + 1) (by omega), Nat.add_sub_cancel, lp_MO_quotient_47]
    refine ⟨fun hc => absurd hc (nI_pos (by omega)), fun _ => ⟨(mh_Q Q).1, A.2.1, (mh_Q Q).2.1.2.1, (mh_Q Q).2.2.1.2.1, in_z (i := 16) Q (by decide), fun v54 e54 => ?_⟩⟩
    rw [show (16 : Int32) = nI 16 from rfl, gz_k Q (by decide)] at e54
    rw [e54]
    refine s_qu_s Q (s := Z' 16) (by omega) (fun D1 f1 g1 => ⟨(mh_Q Q).1, A.1, (mh_Q Q).2.1.1, s_mat Q (by omega) (by omega) (by omega) (fun _ => ⟨(mh_Q Q).2.2.1.1, in_d (i := 1300 * 16 + 0) Q (by decide), fun h94 e94 => ?_⟩)⟩) (Z' 16) D' (Nat.le_refl _) rf_rf (fun j a b => absurd a (by omega)) (fun _ _ => rfl)
    have exi : rd_n D1 Z' x i = ro_n D x i := by
      rw [rf_rd f1 (by omega) X'.1, rd_ro (by omega)]
      exact (f x (by omega) nx).2.2 i (by omega)
    have xi := Xr.2.1 i (by omega)
    rw [exi, show (20800 : Int32).toNatClampNeg = 1300 * 16 + 0 from rfl, mw_d Q] at e94
    rw [e94]
    refine ⟨A.2.1, (mh_Q Q).2.1.2.1, (mh_Q Q).2.2.1.2.1, in_z (i := 16) Q (by decide), ?_⟩
    rw [show (16 : Int32) = nI 16 from rfl, gz_k Q (by decide), show nI (Z' 16) + (1 : Int32) = nI (Z' 16 + 1) from nI_1 _]
    have er : ∀ j, j < Z' 16 → ro_n (dg_u D1 (1300 * 16 + 0) (ro_n D x i)) 16 (1 + j) = ro_n D' 16 j := fun j hj => by
      rw [ro_u, dg_un (by omega), Nat.add_comm]; exact g1 j hj
    have e0 : ro_n (dg_u D1 (1300 * 16 + 0) (ro_n D x i)) 16 0 = ro_n D x i := by rw [ro_u, dg_us]
    have hb : ∀ j, j < Z' 16 + 1 → ro_n (dg_u D1 (1300 * 16 + 0) (ro_n D x i)) 16 j < 10000 := fun j hj => by
      rcases Nat.eq_zero_or_pos j with z | z
      · rw [z, e0]; exact xi
      · obtain ⟨l, hl⟩ : ∃ l, j = 1 + l := ⟨j - 1, by omega⟩
        rw [hl, er l (by omega)]; exact W.2.1 l (by omega)
    have ev : dg_v 10000 (ro_n (dg_u D1 (1300 * 16 + 0) (ro_n D x i)) 16) (Z' 16 + 1) = ro_n D x i + 10000 * w := by
      rw [dg_hd, e0, dg_cg er, ← W.2.2.2]
    refine s_trim (r := 16) Q (by decide) (by omega) hb (fun _ => ?_)
    have M := tr_mr (Z := Z') (r := 16) (by omega) hb
    rw [ev] at M
    generalize hn2 : tr_n (ro_n (dg_u D1 (1300 * 16 + 0) (ro_n D x i)) 16) (Z' 16 + 1) = n2 at M ⊢
    obtain ⟨D2, hD2⟩ : ∃ D2, D2 = dg_u D1 (1300 * 16 + 0) (ro_n D x i) := ⟨_, rfl⟩
    rw [← hD2] at M ⊢
    have f2 : rf_D 16 D' D2 := by rw [hD2]; exact rf_tr f1 (rf_u (by omega))
    have e15 : ∀ j, j < 1300 → ro_n D2 15 j = ro_n D' 15 j := fun j hj => rf_ro f2 (by decide) hj
    have fm : mf_S cd_R D' Z' G' D2 (dg_u Z' 16 n2) (tm_g G' 16 n2) := mf_mo (mf_of f2 tm_ne) (fun r z => Or.inr z)
    obtain ⟨w1, hw1⟩ : ∃ w1, w1 = ro_n D x i + 10000 * w := ⟨_, rfl⟩
    rw [← hw1] at M
    refine ⟨w1 / v + 1, s_qu_w (D := D2) (Z := dg_u Z' 16 n2) (G := tm_g G' 16 n2) (w1 := w1) (k := i) Q hy hv (by omega) (by omega) (fun D3 Z3 G3 w3 f3 g3 W3 l3 e3 v143 e143 => ?_) (w1 / v + 1) D2 _ _ w1 (by omega) mf_rf (fun _ _ _ => rfl) (mf_mr fm (by omega) ny Y') M (by rw [e15 i (by omega), h2 i (by omega)]; omega)⟩
    rw [e143, ← Int32.sub_eq_add_neg]
    have hc : ro_n D3 15 i < 10000 := by
      apply Nat.lt_of_not_le
      intro z
      have : 10000 * v ≤ ro_n D3 15 i * v := Nat.mul_le_mul_right _ z
      omega
    refine ih D3 Z3 G3 w3 (by omega) (mf_tr f (mf_tr fm f3)) (fun j hj => ?_) (fun j hj => ?_) W3 l3 ?_
    · by_cases z : j = i
      · rw [z]; exact hc
      · rw [g3 j (by omega) z, e15 j (by omega)]; exact h1 j hj
    · rw [g3 j (by omega) (by omega), e15 j (by omega)]; exact h2 j (by omega)
    · rw [du_s (show i < n by omega), du_s (d := ro_n D3 15) (show i < n by omega), e, du_cg (d := ro_n D3 15) (e := ro_n D' 15) (i := i + 1) (fun j a b => by rw [g3 j (by omega) (by omega), e15 j (by omega)])]
      generalize du_v 10000 (ro_n D' 15) (i + 1) n = q0 at *
      rw [hw1] at e3
      rw [Nat.add_mul, Nat.mul_assoc 10000 q0 v]
      omega
theorem s_quotient (Q : mo_Q h m A) {x y X v : Nat} (hx : x < 15) (hy : y < 15) (Xr : mr_D D Z x X) (Y : mr_D D Z y v) (hv : 0 < v) (zy : Z y ≤ 1298) {K : ah_H → Prop}
    (hK : ∀ (D' Z' : Nat → Nat) (G' : Nat → Int32), mf_S cd_R D Z G D' Z' G' → mz_D D' Z' G' 15 ((X / v : Nat) : Int) → mz_D D' Z' G' 16 ((X % v : Nat) : Int) → K (mh_S h A D' Z' G')) : w_MO_quotient m (nI x) (nI y) (mh_S h A D Z G) K := by
  have zx := Xr.1
  have nx : ¬ cd_R x := fun z => by rcases z with z | z <;> omega
  have ny : ¬ cd_R y := fun z => by rcases z with z | z <;> omega
  refine ⟨(mh_Q Q).1, A.2.1, (mh_Q Q).2.1.2.1, (mh_Q Q).2.2.1.2.1, in_z Q (by omega), fun v9 e9 => ?_⟩
  rw [gz_k Q (by omega)] at e9
  rw [e9]
  refine s_qu_z Q (N := Z x) zx (fun D1 f1 hz => ⟨(mh_Q Q).1, A.2.1, (mh_Q Q).2.1.2.1, (mh_Q Q).2.2.1.2.1, in_z (i := 16) Q (by decide), fun h37 e37 v41 e41 => ?_⟩) (Z x) 0 D (by omega) rf_rf (fun j hj => absurd hj (Nat.not_lt_zero _))
  rw [show (16 : Int32).toNatClampNeg = 16 from rfl, ← nI_0, mw_z Q] at e37
  rw [e37, e41]
  have fm : mf_S cd_R D Z G D1 (dg_u Z 16 0) G := fun r hr hs => ⟨dg_un (fun z => hs (Or.inr z)), rfl, fun k hk => rf_ro f1 (fun z => hs (Or.inl z)) hk⟩
  have zx1 : dg_u Z 16 0 x = Z x := dg_un (by omega)
  have er : ∀ j, j < Z x → ro_n D1 x j = ro_n D x j := fun j hj => rf_ro f1 (by omega) (by omega)
  refine ⟨Z x + 1, s_qu_o (n := Z x) Q hx hy zx1.symm (mf_mr fm (by omega) nx Xr) (mf_mr fm (by omega) ny Y) hv (by rw [dg_un (by omega)]; exact zy) (fun D2 Z2 G2 w f2 h1 W hw e => ⟨(mh_Q Q).1, A.2.2, (mh_Q Q).2.1.2.2, (mh_Q Q).2.2.1.2.2, in_g (i := 15) Q (by decide), fun h154 e154 => ?_⟩) (Z x) D1 (dg_u Z 16 0) G 0 (Nat.le_refl _) mf_rf (fun j hj => by rw [hz j hj]; decide) hz ⟨by rw [dg_us]; decide, fun k hk => absurd hk (by rw [dg_us]; omega), Or.inl dg_us, by rw [dg_us]; rfl⟩ hv (by rw [du_n, du_n]; omega)⟩
  rw [show (15 : Int32).toNatClampNeg = 15 from rfl, mw_g] at e154
  rw [e154]
  have e1 : X / v = dg_v 10000 (ro_n D2 15) (Z x) := by
    rw [e, Nat.mul_comm, Nat.mul_add_div hv, Nat.div_eq_of_lt hw, Nat.add_zero]
  have e2 : X % v = w := by
    rw [e, Nat.mul_comm, Nat.mul_add_mod, Nat.mod_eq_of_lt hw]
  refine s_trim (r := 15) Q (by decide) zx h1 (fun _ => ?_)
  have M := tr_mr (Z := Z2) (r := 15) zx h1
  rw [← e1] at M
  generalize tr_n (ro_n D2 15) (Z x) = n2 at M ⊢
  have zw := W.1
  have W2 : mr_D D2 (dg_u Z2 15 n2) 16 w := rf_mr (r := 15) rf_rf (by decide) (dg_un (by decide)) W
  have M15 : mz_D D2 (dg_u Z2 15 n2) (tm_g (upd G2 15 1) 15 n2) 15 ((X / v : Nat) : Int) := fin_mz M (by omega) (fun hz => (sI_p.mpr (by omega)).symm)
  have fz : (dg_u Z2 15 n2) 16 = Z2 16 := dg_un (by decide)
  have fin : ∀ s : Int32, s = sI_n ((X % v : Nat) : Int) → bk_MO_quotient_211 K s (16 : Int32) A.2.2 (mh_S h A D2 (dg_u Z2 15 n2) (tm_g (upd G2 15 1) 15 n2)) := by
    intro s hs
    refine ⟨(mh_Q Q).2.2.1.2.2, in_g (i := 16) Q (by decide), fun h175 e175 => ?_⟩
    rw [show (16 : Int32).toNatClampNeg = 16 from rfl, mw_g] at e175
    rw [e175]
    refine hK _ _ _ (mf_tr fm (mf_tr f2 (fun r hr hsr => ⟨dg_un (fun z => hsr (Or.inl z)), ?_, fun _ _ => rfl⟩))) ⟨M15.1, (pk_un (by decide)).trans M15.2⟩ ⟨?_, pk_us.trans hs⟩
    · rw [pk_un (fun z => hsr (Or.inr z))]
      exact tu_ne r (fun z => hsr (Or.inl z))
    · rw [e2, Int.natAbs_natCast]; exact W2
  refine ⟨A.2.2, (mh_Q Q).2.1.2.2, A.2.1, (mh_Q Q).2.1.2.1, (mh_Q Q).2.2.1.2.1, in_z (i := 16) Q (by decide), fun hl => fin 0 ?_, fun hl => fin 1 ?_⟩
  · rw [show (16 : Int32) = nI 16 from rfl, gz_k Q (by decide), fz] at hl
    have h0 : Z2 16 = 0 := by
      rcases Nat.eq_zero_or_pos (Z2 16) with z | z
      · exact z
      · exact absurd hl (nI_nle z (by omega))
    rw [e2, (mr_0 W).mpr h0]
    exact (sI_0.mpr rfl).symm
  · rw [show (16 : Int32) = nI 16 from rfl, gz_k Q (by decide), fz] at hl
    have h0 : Z2 16 ≠ 0 := fun z => hl (by rw [z]; decide)
    have hw0 : w ≠ 0 := fun z => h0 ((mr_0 W).mp z)
    rw [e2]
    exact (sI_p.mpr (by omega)).symm
end MO6
