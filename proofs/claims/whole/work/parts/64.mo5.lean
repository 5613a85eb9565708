section MO5
variable {h : ah_H} {m : Nat} {A : Nat × Nat × Nat} {D Z : Nat → Nat} {G : Nat → Int32}
/-- the digit k below the place n -/
def rs_n (D Z : Nat → Nat) (r n k : Nat) : Nat := if k ≤ n then rd_n D Z r (n - k) else 0
theorem s_matS (Q : mo_Q h m A) {r n k : Nat} (hr : r < 18) (hn : n < 2 ^ 30) (hk : k < 2 ^ 30) (hz : Z r ≤ 1300) {K : Int32 → ah_H → Prop} (hK : K (nI (rs_n D Z r n k)) (mh_S h A D Z G)) : w_MO_at m (nI r) (nI n - nI k) (mh_S h A D Z G) K := by
  unfold rs_n at hK
  by_cases h1 : k ≤ n
  · rw [if_pos h1] at hK
    rw [nI_sub h1]
    exact s_mat Q hr (by omega) hz hK
  · rw [if_neg h1] at hK
    exact s_matN Q hr hz (nI_sbn (by omega) (by omega)) hK
theorem gs_step {a d : Nat} (hd : d < 2 ^ 31) : (lN a * (10000 : Int64)) + (nI d).toInt64 = lN (a * 10000 + d) := by
  rw [nI_l hd]
  show lN a * lN 10000 + lN d = _
  rw [lN_mul, lN_add]
theorem gs_m {a b P R q v w : Nat} (hR : 0 < R) (h1 : a * P ≤ w * R) (h2 : v * R ≤ (b + 1) * P) (hq : q * (b + 1) ≤ a) : q * v ≤ w := by
  have h3 : q * (v * R) ≤ q * ((b + 1) * P) := Nat.mul_le_mul_left _ h2
  have h4 : q * (b + 1) * P ≤ a * P := Nat.mul_le_mul_right _ hq
  rw [← Nat.mul_assoc, ← Nat.mul_assoc] at h3
  exact Nat.le_of_mul_le_mul_right (Nat.le_trans h3 (Nat.le_trans h4 h1)) hR
theorem gs_3 {d e : Nat → Nat} {n : Nat} (he : ∀ i, i < n → e i < 10000) : (d (n + 3) * 1000000000000 + d (n + 2) * 100000000 + d (n + 1) * 10000 + d n) * 10000 ^ n ≤ dg_v 10000 d (n + 4) * 1 ∧ dg_v 10000 e (n + 3) * 1 ≤ (e (n + 2) * 100000000 + e (n + 1) * 10000 + e n + 1) * 10000 ^ n := by
  have h1 : dg_v 10000 d (n + 4) = dg_v 10000 d n + d n * 10000 ^ n + d (n + 1) * 10000 ^ (n + 1) + d (n + 2) * 10000 ^ (n + 2) + d (n + 3) * 10000 ^ (n + 3) := rfl
  have h2 : dg_v 10000 e (n + 3) = dg_v 10000 e n + e n * 10000 ^ n + e (n + 1) * 10000 ^ (n + 1) + e (n + 2) * 10000 ^ (n + 2) := rfl
  have h3 : dg_v 10000 e n < 10000 ^ n := dg_lt he
  have p1 : (10000 : Nat) ^ (n + 1) = 10000 ^ n * 10000 := Nat.pow_succ _ _
  have p2 : (10000 : Nat) ^ (n + 2) = 10000 ^ n * 10000 * 10000 := by rw [Nat.pow_succ, p1]
  have p3 : (10000 : Nat) ^ (n + 3) = 10000 ^ n * 10000 * 10000 * 10000 := by rw [Nat.pow_succ, p2]
  rw [h1, h2, p1, p2, p3]
  generalize (10000 : Nat) ^ n = P at *
  constructor
  · have e1 : (d (n + 3) * 1000000000000 + d (n + 2) * 100000000 + d (n + 1) * 10000 + d n) * P = d n * P + d (n + 1) * (P * 10000) + d (n + 2) * (P * 10000 * 10000) + d (n + 3) * (P * 10000 * 10000 * 10000) := by grind
    rw [e1]; omega
  · have e1 : (e (n + 2) * 100000000 + e (n + 1) * 10000 + e n + 1) * P = P + e n * P + e (n + 1) * (P * 10000) + e (n + 2) * (P * 10000 * 10000) := by grind
    rw [e1]; omega
/-- the digit k below the place n of any row -/
def rsf_n (d : Nat → Nat) (n k : Nat) : Nat := if k ≤ n then d (n - k) else 0
theorem gs_1 {d e : Nat → Nat} : (rsf_n d 1 0 * 1000000000000 + rsf_n d 1 1 * 100000000 + rsf_n d 1 2 * 10000 + rsf_n d 1 3) * 1 ≤ dg_v 10000 d 2 * 100000000 ∧ dg_v 10000 e 1 * 100000000 ≤ (rsf_n e 1 1 * 100000000 + rsf_n e 1 2 * 10000 + rsf_n e 1 3 + 1) * 1 := by
  have a0 : rsf_n d 1 0 = d 1 := rfl
  have a1 : rsf_n d 1 1 = d 0 := rfl
  have a2 : rsf_n d 1 2 = 0 := rfl
  have a3 : rsf_n d 1 3 = 0 := rfl
  have b1 : rsf_n e 1 1 = e 0 := rfl
  have b2 : rsf_n e 1 2 = 0 := rfl
  have b3 : rsf_n e 1 3 = 0 := rfl
  have c1 : dg_v 10000 d 2 = d 0 + d 1 * 10000 := by simp [dg_v]
  have c2 : dg_v 10000 e 1 = e 0 := by simp [dg_v]
  rw [a0, a1, a2, a3, b1, b2, b3, c1, c2]
  omega
theorem gs_2 {d e : Nat → Nat} : (rsf_n d 2 0 * 1000000000000 + rsf_n d 2 1 * 100000000 + rsf_n d 2 2 * 10000 + rsf_n d 2 3) * 1 ≤ dg_v 10000 d 3 * 10000 ∧ dg_v 10000 e 2 * 10000 ≤ (rsf_n e 2 1 * 100000000 + rsf_n e 2 2 * 10000 + rsf_n e 2 3 + 1) * 1 := by
  have a0 : rsf_n d 2 0 = d 2 := rfl
  have a1 : rsf_n d 2 1 = d 1 := rfl
  have a2 : rsf_n d 2 2 = d 0 := rfl
  have a3 : rsf_n d 2 3 = 0 := rfl
  have b1 : rsf_n e 2 1 = e 1 := rfl
  have b2 : rsf_n e 2 2 = e 0 := rfl
  have b3 : rsf_n e 2 3 = 0 := rfl
  have c1 : dg_v 10000 d 3 = d 0 + d 1 * 10000 + d 2 * 100000000 := by simp [dg_v]
  have c2 : dg_v 10000 e 2 = e 0 + e 1 * 10000 := by simp [dg_v]
  rw [a0, a1, a2, a3, b1, b2, b3, c1, c2]
  omega
theorem gs_n {d e : Nat → Nat} (he : ∀ i, e i < 10000) : ∀ n, n ≠ 0 → ∃ P R, 0 < R ∧ (rsf_n d n 0 * 1000000000000 + rsf_n d n 1 * 100000000 + rsf_n d n 2 * 10000 + rsf_n d n 3) * P ≤ dg_v 10000 d (n + 1) * R ∧ dg_v 10000 e n * R ≤ (rsf_n e n 1 * 100000000 + rsf_n e n 2 * 10000 + rsf_n e n 3 + 1) * P
  | 0, h => absurd rfl h
  | 1, _ => ⟨1, 100000000, by decide, gs_1⟩
  | 2, _ => ⟨1, 10000, by decide, gs_2⟩
  | n + 3, _ => by
    have k : ∀ (f : Nat → Nat) (j : Nat), j ≤ 3 → rsf_n f (n + 3) j = f (n + 3 - j) := fun f j hj => by unfold rsf_n; rw [if_pos (by omega)]
    refine ⟨10000 ^ n, 1, by decide, ?_⟩
    rw [k d 0 (by decide), k d 1 (by decide), k d 2 (by decide), k d 3 (by decide), k e 1 (by decide), k e 2 (by decide), k e 3 (by decide)]
    exact gs_3 (fun i _ => he i)
theorem gs_in {y u w : Nat} (Y : mr_D D Z y u) (W : mr_D D Z 16 w) (h0 : 0 < u) (hw : Z 16 ≤ Z y + 1) : ∃ P R, 0 < R ∧ (rs_n D Z 16 (Z y) 0 * 1000000000000 + rs_n D Z 16 (Z y) 1 * 100000000 + rs_n D Z 16 (Z y) 2 * 10000 + rs_n D Z 16 (Z y) 3) * P ≤ w * R ∧ u * R ≤ (rs_n D Z y (Z y) 1 * 100000000 + rs_n D Z y (Z y) 2 * 10000 + rs_n D Z y (Z y) 3 + 1) * P := by
  have hz0 : Z y ≠ 0 := fun z => by have := (mr_0 Y).mpr z; omega
  have := gs_n (d := rd_n D Z 16) (e := rd_n D Z y) (fun i => rd_lt Y i) (Z y) hz0
  rw [rd_v W hw, rd_v Y (Nat.le_refl _)] at this
  exact this
theorem gs_a {a p q r s : Nat} (h : a = (((0 * 10000 + p) * 10000 + q) * 10000 + r) * 10000 + s) : p * 1000000000000 + q * 100000000 + r * 10000 + s = a := by omega
theorem gs_b {a q r s : Nat} (h : a = ((0 * 10000 + q) * 10000 + r) * 10000 + s) : q * 100000000 + r * 10000 + s = a := by omega
theorem rs_lt {r v n k : Nat} (H : mr_D D Z r v) : rs_n D Z r n k < 10000 := by
  unfold rs_n
  split
  · exact rd_lt H _
  · decide
theorem s_guess_m (Q : mo_Q h m A) {y u w : Nat} (hy : y < 18) (Y : mr_D D Z y u) (W : mr_D D Z 16 w) (h0 : 0 < u) (h1 : u ≤ w) (h2 : w < u * 10000) {K : Int32 → ah_H → Prop}
    (hK : ∀ q : Nat, 1 ≤ q → q < 10000 → q * u ≤ w → K (nI q) (mh_S h A D Z G)) : w_MO_guess m (nI y) (mh_S h A D Z G) K := by
  have zy := Y.1
  have hw : Z 16 ≤ Z y + 1 := mr_le W (by
    rw [Nat.pow_succ]
    exact Nat.lt_trans h2 (Nat.mul_lt_mul_of_pos_right (mr_lt Y) (by decide)))
  refine ⟨(mh_Q Q).1, A.2.1, (mh_Q Q).2.1.2.1, (mh_Q Q).2.2.1.2.1, in_z Q hy, fun v8 e8 => ?_⟩
  rw [gz_k Q hy] at e8
  rw [e8]
  have d0 := rs_lt (n := Z y) (k := 0) W
  have d1 := rs_lt (n := Z y) (k := 1) W
  have d2 := rs_lt (n := Z y) (k := 2) W
  have d3 := rs_lt (n := Z y) (k := 3) W
  have c1 := rs_lt (n := Z y) (k := 1) Y
  have c2 := rs_lt (n := Z y) (k := 2) Y
  have c3 := rs_lt (n := Z y) (k := 3) Y
  obtain ⟨P, R, hR, g1, g2⟩ := gs_in Y W h0 hw
  refine ⟨4 + 1, ?_⟩
  rw [lN0, show (0 : Int32) = nI 0 from rfl, lp_MO_guess_15]
  refine ⟨fun hc => absurd hc (by decide), fun _ => ⟨(mh_Q Q).1, s_matS (r := 16) Q (by decide) (by omega) (by decide) W.1 (fun _ v22 e22 v23 e23 => ?_)⟩⟩
  rw [gs_step (by omega)] at e22
  rw [e22, e23, show nI 0 + 1 = nI 1 from nI_1 0, lp_MO_guess_15]
  refine ⟨fun hc => absurd hc (by decide), fun _ => ⟨(mh_Q Q).1, s_matS (r := 16) Q (by decide) (by omega) (by decide) W.1 (fun _ v22 e22 v23 e23 => ?_)⟩⟩
  rw [gs_step (by omega)] at e22
  rw [e22, e23, show nI 1 + 1 = nI 2 from nI_1 1, lp_MO_guess_15]
  refine ⟨fun hc => absurd hc (by decide), fun _ => ⟨(mh_Q Q).1, s_matS (r := 16) Q (by decide) (by omega) (by decide) W.1 (fun _ v22 e22 v23 e23 => ?_)⟩⟩
  rw [gs_step (by omega)] at e22
  rw [e22, e23, show nI 2 + 1 = nI 3 from nI_1 2, lp_MO_guess_15]
  refine ⟨fun hc => absurd hc (by decide), fun _ => ⟨(mh_Q Q).1, s_matS (r := 16) Q (by decide) (by omega) (by decide) W.1 (fun _ v22 e22 v23 e23 => ?_)⟩⟩
  rw [gs_step (by omega)] at e22
  rw [e22, e23, show nI 3 + 1 = nI 4 from nI_1 3, lp_MO_guess_15]
  refine ⟨fun _ => ⟨3 + 1, ?_⟩, fun hc => absurd (by decide) hc⟩
  rw [show (1 : Int32) = nI 1 from rfl, lp_MO_guess_48]
  refine ⟨fun hc => absurd hc (by decide), fun _ => ⟨(mh_Q Q).1, s_matS Q hy (by omega) (by decide) Y.1 (fun _ v22 e22 v23 e23 => ?_)⟩⟩
  rw [gs_step (by omega)] at e22
  rw [e22, e23, show nI 1 + 1 = nI 2 from nI_1 1, lp_MO_guess_48]
  refine ⟨fun hc => absurd hc (by decide), fun _ => ⟨(mh_Q Q).1, s_matS Q hy (by omega) (by decide) Y.1 (fun _ v22 e22 v23 e23 => ?_)⟩⟩
  rw [gs_step (by omega)] at e22
  rw [e22, e23, show nI 2 + 1 = nI 3 from nI_1 2, lp_MO_guess_48]
  refine ⟨fun hc => absurd hc (by decide), fun _ => ⟨(mh_Q Q).1, s_matS Q hy (by omega) (by decide) Y.1 (fun _ v22 e22 v23 e23 => ?_)⟩⟩
  rw [gs_step (by omega)] at e22
  rw [e22, e23, show nI 3 + 1 = nI 4 from nI_1 3, lp_MO_guess_48]
  refine ⟨fun _ => ?_, fun hc => absurd (by decide) hc⟩
  obtain ⟨a, ha⟩ : ∃ a, a = (((0 * 10000 + rs_n D Z 16 (Z y) 0) * 10000 + rs_n D Z 16 (Z y) 1) * 10000 + rs_n D Z 16 (Z y) 2) * 10000 + rs_n D Z 16 (Z y) 3 := ⟨_, rfl⟩
  obtain ⟨b, hb⟩ : ∃ b, b = ((0 * 10000 + rs_n D Z y (Z y) 1) * 10000 + rs_n D Z y (Z y) 2) * 10000 + rs_n D Z y (Z y) 3 := ⟨_, rfl⟩
  have ha' : rs_n D Z 16 (Z y) 0 * 1000000000000 + rs_n D Z 16 (Z y) 1 * 100000000 + rs_n D Z 16 (Z y) 2 * 10000 + rs_n D Z 16 (Z y) 3 = a := gs_a ha
  have hb' : rs_n D Z y (Z y) 1 * 100000000 + rs_n D Z y (Z y) 2 * 10000 + rs_n D Z y (Z y) 3 = b := gs_b hb
  rw [ha'] at g1
  rw [hb'] at g2
  have hal : a < 10000000000000000 := by omega
  have hbl : b < 1000000000000 := by omega
  show (¬ (lN _ + (1 : Int64)) = 0) ∧ _
  rw [← ha, ← hb, lN_1]
  refine ⟨fun hc => ?_, fun v49 e49 => ?_⟩
  · have := (lN_z (by omega)).mp hc
    omega
  · rw [pk_lDiv (by omega) (by omega) (by omega)] at e49
    have hq := gs_m (q := a / (b + 1)) hR g1 g2 (Nat.div_mul_le_self _ _)
    have hq2 : a / (b + 1) < 10000 := by
      apply Nat.lt_of_not_le
      intro z
      have : 10000 * u ≤ a / (b + 1) * u := Nat.mul_le_mul_right _ z
      omega
    refine ⟨fun hc => ?_, fun hc => ?_⟩
    · rw [e49] at hc ⊢
      have h3 := (pk_lLE (a := 1) (by decide) (by omega)).mp hc
      show K (lN _).toInt32 _
      rw [lN_i]
      exact hK _ h3 hq2 hq
    · exact hK 1 (Nat.le_refl _) (by decide) (by omega)
/-- lessens(y, q) -/
theorem ls_step {e c c' P X Y q a b v t : Int} (inv : e - c * P = X - q * Y) (hv : v = a - b * q - c) (ht : t = v + c' * 10000) : e + t * P - c' * (P * 10000) = X + a * P - q * (Y + b * P) := by
  grind
theorem ls_nat {E X Y P a b t q c c' : Nat} {v : Int} (inv : (E : Int) - c * (P : Int) = X - q * Y) (hv : v = a - b * q - c) (ht : (t : Int) = v + c' * 10000) : ((E + t * P : Nat) : Int) - c' * ((P * 10000 : Nat) : Int) = ((X + a * P : Nat) : Int) - q * ((Y + b * P : Nat) : Int) := by
  rw [Int.natCast_add, Int.natCast_add, Int.natCast_add, Int.natCast_mul, Int.natCast_mul, Int.natCast_mul, Int.natCast_mul]
  exact ls_step inv hv ht
theorem d16_k (k : Nat) : (20800 : Int32) + nI k = nI (1300 * 16 + k) := by
  show nI 20800 + nI k = _
  rw [nI_add]
theorem oI_div {a b : Int} (h0 : 0 ≤ a) (ha : fi_Z a) (h1 : 0 < b) (hb : fi_Z b) : oI a / oI b = oI (a / b) := by
  obtain ⟨x, rfl⟩ : ∃ x : Nat, a = x := ⟨a.toNat, by omega⟩
  obtain ⟨y, rfl⟩ : ∃ y : Nat, b = y := ⟨b.toNat, by omega⟩
  unfold fi_Z at *
  rw [← oI_n, ← oI_n, pk_div (by omega) (by omega) (by omega), oI_n]
  congr 1
theorem s_less_b (Q : mo_Q h m A) {i t : Nat} (hi : i < 1300) {v c : Int} (e : (t : Int) = v + c * 10000) {rc : Nat → Int32 → Int32 → Int32 → Int32 → ah_H → Prop} {K : ah_H → Prop} {y q : Int32}
    (hk : rc m y q (oI (-c)) (nI (i + 1)) (mh_S h A (dg_u D (1300 * 16 + i) t) Z G)) : bk_MO_lessens_59 rc K m y q (nI i) (oI v) (oI (-c)) (mh_S h A D Z G) := by
  refine ⟨(mh_Q Q).1, A.1, (mh_Q Q).2.1.1, fun v38 e38 => ⟨(mh_Q Q).2.2.1.1, by rw [d16_k]; exact in_d Q (by omega), fun h41 e41 v45 e45 => ?_⟩⟩
  have e1 : v38 = nI t := by
    rw [e38, oI_n, e]
    show oI v - oI (-c) * oI 10000 = _
    rw [oI_mul, oI_sub]
    congr 1
    omega
  rw [e1, d16_k, nI_clamp (by omega), mw_d Q] at e41
  rw [e41, e45, nI_1]
  exact hk
theorem s_less_a (Q : mo_Q h m A) {y u w q : Nat} (hy : y < 18) (ny : y ≠ 16) (Y : mr_D D Z y u) (W : mr_D D Z 16 w) (hq : q < 10000) {xt : Nat → ah_H → Prop} {K : ah_H → Prop}
    (hxt : ∀ (D' : Nat → Nat) (c : Nat), rf_D 16 D D' → (∀ j, j < Z 16 → ro_n D' 16 j < 10000) → (dg_v 10000 (ro_n D' 16) (Z 16) : Int) - c * ((10000 ^ Z 16 : Nat) : Int) = dg_v 10000 (ro_n D 16) (Z 16) - q * dg_v 10000 (rd_n D Z y) (Z 16) → xt m (mh_S h A D' Z G)) :
    ∀ (k i : Nat) (D' : Nat → Nat) (c : Nat), Z 16 = i + k → rf_D 16 D D' → (∀ j, j < i → ro_n D' 16 j < 10000) → (∀ j, i ≤ j → ro_n D' 16 j = ro_n D 16 j) → c < 10000 → (dg_v 10000 (ro_n D' 16) i : Int) - c * ((10000 ^ i : Nat) : Int) = dg_v 10000 (ro_n D 16) i - q * dg_v 10000 (rd_n D Z y) i → lp_MO_lessens_5 xt K (k + 1) m (nI y) (nI q) (oI (-(c : Int))) (nI i) (mh_S h A D' Z G) := by
  have zw := W.1
  intro k
  induction k with
  | zero =>
    intro i D' c hi h1 h2 h3 h4 h5
    have e0 : i = Z 16 := by omega
    subst e0
    rw [lp_MO_lessens_5]
    refine ⟨(mh_Q Q).1, A.2.1, (mh_Q Q).2.1.2.1, (mh_Q Q).2.2.1.2.1, in_z (i := 16) Q (by decide), fun _ => hxt D' c h1 h2 h5, fun hc => absurd ?_ hc⟩
    rw [show (16 : Int32) = nI 16 from rfl, gz_k Q (by decide)]; exact nI_le (Nat.le_refl _) (by omega)
  | succ k ih =>
    intro i D' c hi h1 h2 h3 h4 h5
    rw [lp_MO_lessens_5]
    refine ⟨(mh_Q Q).1, A.2.1, (mh_Q Q).2.1.2.1, (mh_Q Q).2.2.1.2.1, in_z (i := 16) Q (by decide), fun hc => ?_, fun _ => s_mat (r := 16) Q (by decide) (by omega) W.1 (fun _ => s_mat Q hy (by omega) Y.1 (fun _ v26 e26 => ?_))⟩
    · rw [show (16 : Int32) = nI 16 from rfl, gz_k Q (by decide)] at hc
      exact absurd hc (nI_ge (by omega) (by omega))
    · have b1 := rd_lt Y i
      have a1 := W.2.1 i (by omega)
      rw [rd_ro (by omega), h3 i (Nat.le_refl _), rf_rd h1 ny Y.1, oI_n, oI_n, oI_n, oI_mul, oI_sub, oI_add] at e26
      obtain ⟨a, ha⟩ : ∃ a, a = ro_n D 16 i := ⟨_, rfl⟩
      obtain ⟨b, hb⟩ : ∃ b, b = rd_n D Z y i := ⟨_, rfl⟩
      rw [← ha] at a1 e26
      rw [← hb] at b1 e26
      have hbq1 : b * q ≤ 9999 * 9999 := Nat.mul_le_mul (by omega) (by omega)
      have hbq2 : ((b * q : Nat) : Int) = (b : Int) * q := Int.natCast_mul _ _
      have hbq : (b : Int) * q ≤ 99980001 := by rw [← hbq2]; omega
      have hbq0 : (0 : Int) ≤ (b : Int) * q := by rw [← hbq2]; omega
      obtain ⟨w', hw⟩ : ∃ w' : Int, w' = (a : Int) - b * q - c := ⟨_, rfl⟩
      have e26' : v26 = oI w' := by rw [e26, hw]; congr 1
      have hlo : -99990000 ≤ w' ∧ w' < 10000 := by omega
      have hfi : fi_Z w' := by unfold fi_Z; omega
      have go : ∀ (c' t : Nat), (t : Int) = w' + c' * 10000 → t < 10000 → c' < 10000 → bk_MO_lessens_59 (lp_MO_lessens_5 xt K (k + 1)) K m (nI y) (nI q) (nI i) v26 (oI (-(c' : Int))) (mh_S h A D' Z G) := by
        intro c' t e1 e2 e3
        rw [e26']
        refine s_less_b Q (by omega) e1 (ih (i + 1) _ c' (by omega) (rf_tr h1 (rf_u (by omega))) (fun j hj => ?_) (fun j hj => by rw [ro_u, dg_un (by omega)]; exact h3 j (by omega)) e3 ?_)
        · rw [ro_u]
          by_cases z : j = i
          · rw [z, dg_us]; exact e2
          · rw [dg_un z]; exact h2 j (by omega)
        · rw [ro_u]
          have f1 : dg_v 10000 (dg_u (ro_n D' 16) i t) (i + 1) = dg_v 10000 (ro_n D' 16) i + t * 10000 ^ i := by
            show dg_v 10000 _ i + dg_u _ i t i * 10000 ^ i = _
            rw [dg_us_v (Nat.le_refl _), dg_us]
          have f2 : dg_v 10000 (ro_n D 16) (i + 1) = dg_v 10000 (ro_n D 16) i + a * 10000 ^ i := by rw [ha]; rfl
          have f3 : dg_v 10000 (rd_n D Z y) (i + 1) = dg_v 10000 (rd_n D Z y) i + b * 10000 ^ i := by rw [hb]; rfl
          rw [f1, f2, f3]
          rw [Nat.pow_succ]
          exact ls_nat h5 hw e1
      refine ⟨fun hp => go 0 w'.toNat ?_ ?_ (by decide), fun hp => ?_⟩
      · rw [e26'] at hp
        have := (oI_le (a := 0) (by unfold fi_Z; omega) hfi).mp hp
        omega
      · rw [e26'] at hp
        have := (oI_le (a := 0) (by unfold fi_Z; omega) hfi).mp hp
        omega
      · have hp' : ¬ (0 : Int) ≤ w' := fun z => hp (by rw [e26']; exact (oI_le (a := 0) (by unfold fi_Z; omega) hfi).mpr z)
        have e9 : -(((9999 : Int32) - v26) / (10000 : Int32)) = oI (-(((9999 - w') / 10000).toNat : Int)) := by
          rw [e26']
          show -((oI 9999 - oI w') / oI 10000) = _
          rw [oI_sub, oI_div (by omega) (by unfold fi_Z; omega) (by decide) (by unfold fi_Z; omega), oI_neg]
          congr 1
          omega
        rw [e9]
        exact go _ (w' + ((9999 - w') / 10000) * 10000).toNat (by omega) (by omega) (by omega)
theorem s_lessens (Q : mo_Q h m A) {y u w q : Nat} (hy : y < 18) (ny : y ≠ 16) (Y : mr_D D Z y u) (W : mr_D D Z 16 w) (hq : q < 10000) (hz : Z y ≤ Z 16) (hle : q * u ≤ w) {K : ah_H → Prop}
    (hK : ∀ (D' : Nat → Nat) (n : Nat), rf_D 16 D D' → mr_D D' (dg_u Z 16 n) 16 (w - q * u) → K (mh_S h A D' (dg_u Z 16 n) (tm_g G 16 n))) : w_MO_lessens m (nI y) (nI q) (mh_S h A D Z G) K := by
  refine ⟨Z 16 + 1, s_less_a Q hy ny Y W hq (fun D' c h1 h2 h3 => ⟨(mh_Q Q).1, A.2.1, (mh_Q Q).2.1.2.1, (mh_Q Q).2.2.1.2.1, in_z (i := 16) Q (by decide), ?_⟩) (Z 16) 0 D 0 (by omega) rf_rf (fun j hj => absurd hj (Nat.not_lt_zero _)) (fun _ _ => rfl) (by decide) ?_⟩
  · show ((0 : Nat) : Int) - ((0 : Nat) : Int) * _ = ((0 : Nat) : Int) - (q : Int) * ((0 : Nat) : Int)
    simp
  · rw [show (16 : Int32) = nI 16 from rfl, gz_k Q (by decide)]
    refine s_trim (r := 16) Q (by decide) W.1 h2 (fun _ => hK _ _ h1 ?_)
    have := tr_mr (Z := Z) (r := 16) (D := D') W.1 h2
    have e1 : dg_v 10000 (ro_n D' 16) (Z 16) = w - q * u := by
      rw [rd_v Y hz, ← W.2.2.2] at h3
      have hlt : dg_v 10000 (ro_n D' 16) (Z 16) < 10000 ^ Z 16 := dg_lt h2
      have h6 : ((q * u : Nat) : Int) = (q : Int) * u := Int.natCast_mul _ _
      rw [← h6] at h3
      generalize q * u = x at *
      rcases Nat.eq_zero_or_pos c with z | z
      · subst z
        rw [Int.natCast_zero, Int.zero_mul, Int.sub_zero] at h3
        omega
      · exfalso
        have h7 : 1 * 10000 ^ Z 16 ≤ c * 10000 ^ Z 16 := Nat.mul_le_mul_right _ z
        have h8 : ((c * 10000 ^ Z 16 : Nat) : Int) = (c : Int) * ((10000 ^ Z 16 : Nat) : Int) := Int.natCast_mul _ _
        rw [← h8] at h3
        generalize c * 10000 ^ Z 16 = t at *
        generalize 10000 ^ Z 16 = t2 at *
        omega
    rw [e1] at this
    exact this
end MO5
