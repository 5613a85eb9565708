section DV1
variable {h : ah_H}
theorem uq_k {m d : Nat} (hd : 0 < d) : 2 * (m / 2 / d) * d ≤ m ∧ m - 2 * (m / 2 / d) * d < 2 * d ∧ m / d = if m - 2 * (m / 2 / d) * d < d then 2 * (m / 2 / d) else 2 * (m / 2 / d) + 1 := by
  have e1 : m / 2 / d = m / (2 * d) := Nat.div_div_eq_div_mul m 2 d
  have h1 := Nat.div_add_mod m (2 * d)
  have h2 : m % (2 * d) < 2 * d := Nat.mod_lt _ (by omega)
  rw [e1]
  generalize m / (2 * d) = k at *
  generalize m % (2 * d) = r at *
  have e2 : 2 * d * k = 2 * k * d := by ac_rfl
  rw [e2] at h1
  refine ⟨by omega, by omega, ?_⟩
  by_cases hr : r < d
  · rw [if_pos (by omega)]
    exact Nat.div_eq_of_lt_le (by omega) (by rw [Nat.add_mul]; omega)
  · rw [if_neg (by omega)]
    exact Nat.div_eq_of_lt_le (by rw [Nat.add_mul]; omega) (by rw [Nat.add_mul, Nat.add_mul]; omega)
/-- unsignedQuotient(dividend, divisor) -/
theorem s_uq {m d : Nat} (hm : m < 18446744073709551616) (hd : 0 < d) (hd2 : d < 4294967296) {K : Int64 → ah_H → Prop} (hK : K (lN (m / d)) h) : w_DV_unsignedQuotient (lN m) (lN d) h K := by
  obtain ⟨h1, h2, h3⟩ := uq_k (m := m) hd
  rw [h3] at hK
  unfold w_DV_unsignedQuotient
  refine ⟨fun _ => ⟨fun hz => ?_, fun v5 e5 => ?_⟩, fun hc => absurd ?_ hc⟩
  · have := (lN_z (by omega)).mp hz
    omega
  · have hd3 : m / 2 / d ≤ m / 2 := Nat.div_le_self _ _
    rw [show (1 : Int32) = nI 1 from rfl, wb_shr hm (by decide), pk_lDiv (by rw [Nat.pow_one]; omega) hd (by omega), wb_shl _ (by decide), Nat.pow_one, Nat.mul_comm _ 2] at e5
    have e6 : lN m - v5 * lN d = lN (m - 2 * (m / 2 / d) * d) := by rw [e5, lN_mul, lN_sub h1]
    have e7 : lN (m - 2 * (m / 2 / d) * d) < lN d ↔ m - 2 * (m / 2 / d) * d < d := pk_lLT (by omega) (by omega)
    rw [e6]
    refine ⟨fun hl => ?_, fun hl => ?_⟩
    · rw [if_pos (e7.mp hl)] at hK
      rw [e5]; exact hK
    · rw [if_neg (fun z => hl (e7.mpr z))] at hK
      rw [e5, lN_1]; exact hK
  · rw [lN0]; exact (pk_lLT (by decide) (by omega)).mpr hd
theorem un_lt {a b : Nat} (ha : a < 18446744073709551616) (hb : b < 18446744073709551616) : lN a + (-9223372036854775808 : Int64) < lN b + (-9223372036854775808 : Int64) ↔ a < b := by
  have key : ∀ m : Nat, m < 18446744073709551616 → (lN m + (-9223372036854775808 : Int64)).toInt = (m : Int) - 9223372036854775808 := by
    intro m hm
    rw [show (-9223372036854775808 : Int64) = lN 9223372036854775808 by decide, lN_add, wb_mod, show (2 : Nat) ^ 64 = 18446744073709551616 by decide, lN_ti (by omega)]
    have e63 : (2 : Nat) ^ 63 = 9223372036854775808 := by decide
    have e64 : (2 : Int) ^ 64 = 18446744073709551616 := by decide
    rw [e63, e64]
    split <;> omega
  rw [Int64.lt_iff_toInt_lt, key a ha, key b hb]
  omega
/-- the guess is not below the true limb, and a guess that passes the test is at most one above it -/
theorem gu_ge {W v f both P q : Nat} (hP : 0 < P) (hv : f * P ≤ v) (hW : W < (both + 1) * P) (hq : q * v ≤ W) : q * f ≤ both := by
  have h1 : q * f * P ≤ q * v := by rw [Nat.mul_assoc]; exact Nat.mul_le_mul_left _ hv
  have h2 : q * f * P < (both + 1) * P := by omega
  have h3 := Nat.lt_of_mul_lt_mul_right h2
  omega
theorem gu_dn {W v v2 u3 P q g : Nat} (hv : v2 * P ≤ v) (hW : W < (u3 + 1) * P) (hq : q * v ≤ W) (ht : u3 < g * v2) : q < g := by
  apply Nat.lt_of_not_le
  intro h1
  have h2 : g * v2 * P ≤ q * v := by rw [Nat.mul_assoc]; exact Nat.mul_le_mul h1 hv
  have h3 : (u3 + 1) * P ≤ g * v2 * P := Nat.mul_le_mul_right _ ht
  omega
theorem gu_up {W v v2 u3 P q g : Nat} (hv : v < (v2 + 1) * P) (hW : u3 * P ≤ W) (hq : W < (q + 1) * v) (ht : g * v2 ≤ u3) (hb : g ≤ v2) : g ≤ q + 1 := by
  apply Nat.le_of_not_lt
  intro h1
  obtain ⟨k, rfl⟩ : ∃ k, g = q + 1 + (k + 1) := ⟨g - q - 2, by omega⟩
  have h2 : (q + 1 + (k + 1)) * v2 * P ≤ u3 * P := Nat.mul_le_mul_right _ ht
  have h3 : (q + 1) * v < (q + 1) * ((v2 + 1) * P) := Nat.mul_lt_mul_of_pos_left hv (by omega)
  have h4 : (q + 1 + (k + 1)) * v2 * P < (q + 1) * ((v2 + 1) * P) := by omega
  rw [← Nat.mul_assoc] at h4
  have h5 := Nat.lt_of_mul_lt_mul_right h4
  rw [Nat.add_mul, Nat.mul_add (q + 1), Nat.mul_one] at h5
  have h6 : 1 * v2 ≤ (k + 1) * v2 := Nat.mul_le_mul_right _ (by omega)
  omega
theorem b2_lt {a b : Nat} (ha : a < 4294967296) (hb : b < 4294967296) : a * b < 18446744073709551616 := by
  have h1 : a * b ≤ 4294967295 * 4294967295 := Nat.mul_le_mul (by omega) (by omega)
  have h2 : (4294967295 : Nat) * 4294967295 = 18446744065119617025 := by decide
  omega
theorem gt_k {B X o u0 gs : Nat} (h : o * B + u0 < gs) : (X + o) * B + u0 < X * B + gs := by rw [Nat.add_mul]; omega
theorem gt_k' {B X o u0 gs : Nat} (h : ¬ o * B + u0 < gs) : X * B + gs ≤ (X + o) * B + u0 := by rw [Nat.add_mul]; omega
/-- the loop of guessLimb: at its end the guess passes the test -/
theorem s_gu_a {dv r qr nr : Nat} {ngr : Bool} {e : Nat → Nat} (hdv : ah_T h dv = 2) (hr : ah_R h 3 dv = some r) (Rw : wh_S h r qr nr ngr e) (hz : ∀ i, 258 ≤ i → e i = 0) {top f s both u0 : Nat} (htop : top ≤ 257) (hu0 : u0 = if 2 ≤ top then e (top - 2) else 0) (hu : u0 < 4294967296) (hf : f < 4294967296) (hf2 : 2147483648 ≤ f) (hs : s < 4294967296) (P : Nat → Prop) (hP : ∀ g, P g → both * 4294967296 + u0 < g * (f * 4294967296 + s) → P (g - 1)) {xa xb : Int64 → ah_H → Prop} {K : Int64 → ah_H → Prop}
    (hx : ∀ g, g < 4294967296 → P g → g * (f * 4294967296 + s) ≤ both * 4294967296 + u0 → xa (lN g) h ∧ xb (lN g) h) :
    ∀ (k i g o : Nat), i + k = 2 → g < 4294967296 → both = g * f + o → i * f ≤ o → o < 4294967296 * 4 → P g → lp_DV_guessLimb_106 xa xb K (k + 1) dv (nI top) (lN f) (lN s) (lN g) (lN o) (nI i) h := by
  have pass : ∀ g o, g < 4294967296 → both = g * f + o → 4294967296 ≤ o → g * (f * 4294967296 + s) ≤ both * 4294967296 + u0 := by
    intro g o hg hb ho
    have h1 : g * s ≤ 4294967295 * 4294967295 := Nat.mul_le_mul (by omega) (by omega)
    have h2 : (4294967295 : Nat) * 4294967295 = 18446744065119617025 := by decide
    have e1 : g * (f * 4294967296 + s) = g * f * 4294967296 + g * s := by rw [Nat.mul_add, Nat.mul_assoc]
    rw [e1, hb]
    generalize g * f = X
    omega
  intro k
  induction k with
  | zero =>
    intro i g o hi hg hb hio ho hp
    have e0 : i = 2 := by omega
    subst e0
    rw [lp_DV_guessLimb_106]
    exact ⟨fun _ => (hx g hg hp (pass g o hg hb (by omega))).2, fun hc => absurd (by decide) hc⟩
  | succ k ih =>
    intro i g o hi hg hb hio ho hp
    rw [lp_DV_guessLimb_106]
    refine ⟨fun hc => absurd hc (nI_ge (b := 2) (by omega) (by decide)), fun _ => ⟨fun hc => ?_, fun hc => ⟨hdv, r, hr, Rw.1.1, ?_⟩⟩⟩
    · have : 4294967295 < o := (pk_lLT (a := 4294967295) (by decide) (by omega)).mp hc
      exact (hx g hg hp (pass g o hg hb (by omega))).2
    · have ho2 : ¬ 4294967295 < o := fun z => hc ((pk_lLT (a := 4294967295) (by decide) (by omega)).mpr z)
      rw [show (2 : Int32) = nI 2 from rfl]
      refine s_ats Rw hz (by omega) (by decide) (fun _ v103 e103 => ?_)
      rw [show ds_n e 2 top = u0 from hu0.symm, lo_eq hu (by omega)] at e103
      have hk1 : o * 4294967296 + u0 < 18446744073709551616 := by omega
      have hk2 := b2_lt hg hs
      have e2 : lN g * lN s = lN (g * s) := lN_mul g s
      have e3 : g * (f * 4294967296 + s) = g * f * 4294967296 + g * s := by rw [Nat.mul_add, Nat.mul_assoc]
      rw [e103, e2]
      refine ⟨fun hl v105 e105 v106 e106 v107 e107 => ?_, fun hl => ?_⟩
      · have h3 := (un_lt hk1 hk2).mp hl
        have hg0 : 0 < g := by
          rcases Nat.eq_zero_or_pos g with z | z
          · rw [z, Nat.zero_mul] at h3; omega
          · exact z
        rw [e105, e106, e107, lN_add, nI_1, show (1 : Int64) = lN 1 from rfl, lN_sub (by omega)]
        have hgf : g * f = (g - 1) * f + f := by
          conv => lhs; rw [show g = (g - 1) + 1 by omega]
          rw [Nat.add_mul, Nat.one_mul]
        refine ih (i + 1) (g - 1) (o + f) (by omega) (by omega) (by omega) (by rw [Nat.add_mul]; omega) (by omega) (hP g hp ?_)
        rw [e3, hb]
        exact gt_k h3
      · have h3 : ¬ o * 4294967296 + u0 < g * s := fun z => hl ((un_lt hk1 hk2).mpr z)
        refine (hx g hg hp ?_).1
        rw [e3, hb]
        exact gt_k' h3
end DV1
