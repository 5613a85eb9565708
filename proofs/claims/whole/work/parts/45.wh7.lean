section WH7
variable {h : ah_H} {w q n : Nat} {ng : Bool} {d : Nat → Nat}
theorem lf_a {D0 D1 D2 R p : Nat} (hp : p < 32) (h0 : D0 < 4294967296) (h1 : D1 < 4294967296) : (D0 + 4294967296 * (D1 + 4294967296 * (D2 + 4294967296 * R))) / 2 ^ p % 18446744073709551616 = (D1 * 4294967296 + D0) / 2 ^ p + D2 % 2 ^ p * 2 ^ (64 - p) := by
  have e64 : 2 ^ (64 - p) * 2 ^ p = 18446744073709551616 := by rw [← Nat.pow_add, show 64 - p + p = 64 by omega]
  have hpp := Nat.two_pow_pos p
  have hd := Nat.div_add_mod D2 (2 ^ p)
  have hm : D2 % 2 ^ p < 2 ^ p := Nat.mod_lt _ hpp
  have hlow : D1 * 4294967296 + D0 < 18446744073709551616 := by omega
  have hl2 : (D1 * 4294967296 + D0) / 2 ^ p < 2 ^ (64 - p) := by
    apply Nat.div_lt_of_lt_mul
    rw [Nat.mul_comm (2 ^ p), e64]; exact hlow
  have e1 : D0 + 4294967296 * (D1 + 4294967296 * (D2 + 4294967296 * R)) = 2 ^ p * (2 ^ (64 - p) * (D2 + 4294967296 * R)) + (D1 * 4294967296 + D0) := by
    rw [← Nat.mul_assoc, Nat.mul_comm (2 ^ p), e64]; omega
  rw [e1, Nat.mul_add_div hpp]
  have h6 : (D2 % 2 ^ p + 1) * 2 ^ (64 - p) ≤ 2 ^ p * 2 ^ (64 - p) := Nat.mul_le_mul_right _ hm
  rw [Nat.mul_comm (2 ^ p), e64, Nat.add_mul, Nat.one_mul] at h6
  have e32 : (4294967296 : Nat) = 2 ^ (32 - p) * 2 ^ p := (p2_sp (by omega)).symm
  have e2 : 2 ^ (64 - p) * (D2 + 4294967296 * R) = 18446744073709551616 * (D2 / 2 ^ p + 2 ^ (32 - p) * R) + D2 % 2 ^ p * 2 ^ (64 - p) := by
    rw [← e64, e32]
    conv => lhs; rw [← hd]
    grind
  rw [e2, Nat.add_assoc, Nat.mul_add_mod, Nat.mod_eq_of_lt (by omega), Nat.add_comm]
/-- longFrom(n): 64 bits from bit n on -/
theorem s_longFrom (H : wh_S h w q n ng d) (C : cn_D d n) {b : Nat} (hb : b ≤ 8256) {K : Int64 → ah_H → Prop} (hK : K (lN (dg_v 4294967296 d n / 2 ^ b % 18446744073709551616)) h) : w_WH_longFrom w (nI b) h K := by
  have hp : b % 32 < 32 := Nat.mod_lt _ (by decide)
  have hz := cn_258 C
  have hw : b / 32 ≤ 258 := by omega
  have hn := C.2.2.2
  have x0 := C.1 (b / 32)
  have x1 := C.1 (b / 32 + 1)
  have x2 := C.1 (b / 32 + 2)
  have e1 : dg_v 4294967296 d n = dg_v 4294967296 d (b / 32 + (n + 3)) := (dg_z (by omega) (fun i h1 _ => C.2.1 i h1)).symm
  have ev : dg_v 4294967296 d n / 2 ^ b % 18446744073709551616 = (d (b / 32 + 1) * 4294967296 + d (b / 32)) / 2 ^ (b % 32) + d (b / 32 + 2) % 2 ^ (b % 32) * 2 ^ (64 - b % 32) := by
    rw [cn_dv (cn_cw C) (n := b)]
    have e2 : dg_v 4294967296 (fun i => d (b / 32 + i)) (n - b / 32) = dg_v 4294967296 (fun i => d (b / 32 + i)) (n + 3) := (dg_z (by omega) (fun i h1 _ => C.2.1 _ (by omega))).symm
    rw [e2, show n + 3 = n + 1 + 1 + 1 by omega, dg_hd, dg_hd, dg_hd]
    exact lf_a hp x0 x1
  unfold w_WH_longFrom
  intro v3 e3 v4 e4
  rw [show (32 : Int32) = nI 32 from rfl, nI_div (by omega) (by decide) (by decide)] at e3
  rw [show (32 : Int32) = nI 32 from rfl, nI_rem (by omega) (by decide) (by decide)] at e4
  rw [e3, nI_1, show (2 : Int32) = nI 2 from rfl, nI_add]
  rw [ev] at hK
  clear ev e1
  generalize b / 32 = W at *
  generalize b % 32 = p at *
  have hlow : d (W + 1) * 4294967296 + d W < 18446744073709551616 := by omega
  refine ⟨H.1.1, s_at H hz (by omega) (fun _ => s_at H hz (by omega) (fun _ v14 e14 => ?_))⟩
  rw [lo_eq x0 x1] at e14
  refine ⟨fun hne => s_at H hz (by omega) (fun _ => ?_), fun he => ?_⟩
  · have hp0 : p ≠ 0 := fun z => hne (by rw [e4, z]; rfl)
    have e64 : 2 ^ (64 - p) * 2 ^ p = 18446744073709551616 := by rw [← Nat.pow_add, show 64 - p + p = 64 by omega]
    have hm : d (W + 2) % 2 ^ p < 2 ^ p := Nat.mod_lt _ (Nat.two_pow_pos p)
    have hl2 : (d (W + 1) * 4294967296 + d W) / 2 ^ p < 2 ^ (64 - p) := by
      apply Nat.div_lt_of_lt_mul
      rw [Nat.mul_comm (2 ^ p), e64]; exact hlow
    have h6 : (d (W + 2) % 2 ^ p + 1) * 2 ^ (64 - p) ≤ 2 ^ p * 2 ^ (64 - p) := Nat.mul_le_mul_right _ hm
    rw [Nat.mul_comm (2 ^ p), e64, Nat.add_mul, Nat.one_mul] at h6
    have e5 : lN (d (W + 2) * 2 ^ (64 - p)) = lN (d (W + 2) % 2 ^ p * 2 ^ (64 - p)) := by
      rw [wb_mod (d (W + 2) * 2 ^ (64 - p)), wb_mod (d (W + 2) % 2 ^ p * 2 ^ (64 - p))]
      congr 1
      have hd := Nat.div_add_mod (d (W + 2)) (2 ^ p)
      have e6 : d (W + 2) * 2 ^ (64 - p) = 18446744073709551616 * (d (W + 2) / 2 ^ p) + d (W + 2) % 2 ^ p * 2 ^ (64 - p) := by
        rw [← e64]
        conv => lhs; rw [← hd]
        grind
      rw [e6, show (2 : Nat) ^ 64 = 18446744073709551616 by decide, Nat.mul_add_mod]
    show K _ h
    rw [e14, e4, wb_shr hlow (by omega), show (64 : Int32) = nI 64 from rfl, nI_sub (by omega), wb_shl _ (show 64 - p < 64 by omega), e5, g_or' (k := 64 - p) rfl hl2 (by omega)]
    exact hK
  · have hp0 : p = 0 := by
      rw [e4, ← nI_0] at he
      exact (nI_eq (by omega) (by decide)).mp he
    rw [hp0] at hK
    simp only [Nat.pow_zero, Nat.div_one, Nat.mod_one, Nat.zero_mul, Nat.add_zero] at hK
    show K _ h
    rw [e14]
    exact hK
/-- V is 2^z times an odd number (or 0) -/
def tz_N (v z : Nat) : Prop := (v = 0 ∧ z = 0) ∨ ∃ j, v = 2 ^ z * (2 * j + 1)
theorem tz_ex : ∀ (k v : Nat), v < 2 ^ k → v ≠ 0 → ∃ z j, z < k ∧ v = 2 ^ z * (2 * j + 1) := by
  intro k
  induction k with
  | zero => intro v hv h0; exact absurd (by simpa using hv) h0
  | succ k ih =>
    intro v hv h0
    by_cases ho : v % 2 = 1
    · exact ⟨0, v / 2, by omega, by rw [Nat.pow_zero]; omega⟩
    · obtain ⟨z, j, hz, hj⟩ := ih (v / 2) (by rw [Nat.pow_succ] at hv; omega) (by omega)
      refine ⟨z + 1, j, by omega, ?_⟩
      rw [Nat.pow_succ, Nat.mul_comm (2 ^ z) 2, Nat.mul_assoc, ← hj]
      omega
theorem tz_and {k j m : Nat} (e : m = 2 ^ k * (2 * j + 1)) (hm : m < 4294967296) : (lN m ^^^ (-1 : Int64)) &&& (lN m - (1 : Int64)) = lN (2 ^ k - 1) := by
  have hk := Nat.two_pow_pos k
  have h1 : 1 ≤ m := by
    rw [e]; exact Nat.le_trans hk (Nat.le_mul_of_pos_right _ (by omega))
  have e1 : m - 1 = 2 ^ k * (2 * j) + (2 ^ k - 1) := by rw [e, Nat.mul_add, Nat.mul_one]; omega
  have e2 : m = 2 ^ k * (2 * j + 1) + 0 := by rw [Nat.add_zero]; exact e
  have h2 : (-1 : Int64) = lN (2 ^ 64 - 1) := by decide
  have e4 : lN m - (1 : Int64) = lN (m - 1) := lN_sub (a := m) (b := 1) h1
  have hx : m ^^^ (2 ^ 64 - 1) < 2 ^ 64 := Nat.xor_lt_two_pow (by omega) (by decide)
  rw [e4, h2, lN_xor, wb_and hx (by omega)]
  congr 1
  apply Nat.eq_of_testBit_eq
  intro i
  rw [Nat.testBit_and, Nat.testBit_xor, Nat.testBit_two_pow_sub_one, e1, Nat.testBit_two_pow_mul_add _ (show 2 ^ k - 1 < 2 ^ k by omega), Nat.testBit_two_pow_sub_one]
  have hmb : m.testBit i = if i < k then (0 : Nat).testBit i else (2 * j + 1).testBit (i - k) := by
    conv => lhs; rw [e2]
    exact Nat.testBit_two_pow_mul_add _ hk _
  rw [hmb]
  by_cases hi : i < k
  · have : k ≤ 32 := by
      apply Nat.le_of_not_lt
      intro h9
      have h10 : (2 : Nat) ^ 33 ≤ 2 ^ k := Nat.pow_le_pow_right (by decide) h9
      have h11 : 2 ^ k ≤ m := by rw [e]; exact Nat.le_mul_of_pos_right _ (by omega)
      have h12 : (2 : Nat) ^ 33 = 8589934592 := by decide
      omega
    have h64 : i < 64 := by omega
    simp [hi, h64]
  · rw [if_neg hi, if_neg hi]
    by_cases h9 : i = k
    · subst h9
      simp
    · obtain ⟨l, hl⟩ : ∃ l, i - k = l + 1 := ⟨i - k - 1, by omega⟩
      rw [hl, Nat.testBit_succ, Nat.testBit_succ, show (2 * j + 1) / 2 = j by omega, show 2 * j / 2 = j by omega]
      by_cases h64 : i < 64
      · simp [hi, h64]
      · have hj0 : j.testBit l = false := by
          apply Nat.testBit_lt_two_pow
          have h3 : j < 2 ^ 32 := by
            have : 2 * j + 1 ≤ m := by rw [e]; exact Nat.le_mul_of_pos_left _ hk
            omega
          by_cases hk32 : k ≤ 31
          · exact Nat.lt_of_lt_of_le h3 (Nat.pow_le_pow_right (by decide) (by omega))
          · have h5 : 2 ^ 32 ≤ 2 ^ k := Nat.pow_le_pow_right (by decide) (by omega)
            have h6 : 2 ^ k ≤ m := by rw [e]; exact Nat.le_mul_of_pos_right _ (by omega)
            have h7 : (2 : Nat) ^ 32 = 4294967296 := by decide
            omega
        simp [hj0]
        omega
theorem bc_k {k : Nat} (hk : k ≤ 32) {K : Int32 → ah_H → Prop} (hK : K (nI k) h) : w_JL_bitCount (lN (2 ^ k - 1)) h K := by
  unfold w_JL_bitCount
  intro v2 e2 v3 e3 v4 e4 v5 e5 v6 e6 v7 e7
  have : v7.toInt32 &&& (127 : Int32) = nI k := by
    subst e7 e6 e5 e4 e3 e2
    clear hK
    revert k
    decide +kernel
  rw [this]; exact hK
theorem s_ez_a (H : wh_S h w q n ng d) (C : cn_D d n) {K : Int32 → ah_H → Prop} {xt : Int32 → Int64 → ah_H → Prop} {xz : ah_H → Prop} (h0 : (∀ j, j < n → d j = 0) → xz h)
    (hx : ∀ i, i < n → (∀ j, j < i → d j = 0) → d i ≠ 0 → xt (nI i) (lN (d i)) h) :
    ∀ (k i : Nat), n = i + k → (∀ j, j < i → d j = 0) → ∃ m, lp_WH_endingZeros_2 xt xz K m w (nI i) h := by
  have hn := C.2.2.2
  intro k
  induction k with
  | zero =>
    intro i hi hj
    have e0 : i = n := by omega
    subst e0
    refine ⟨0 + 1, ?_⟩
    rw [lp_WH_endingZeros_2, H.2.1]
    exact ⟨H.1.1, fun _ => h0 hj, fun hc => absurd (nI_le (Nat.le_refl i) (by omega)) hc⟩
  | succ k ih =>
    intro i hi hj
    have x1 := C.1 i
    have hvi : vp_in (nI i) (ah_N h q) := by rw [H.1.2.2.2]; exact vp_in_nI (by omega) (by decide)
    have ev : ah_bL h q (nI i).toNatClampNeg = lN (d i) := by rw [nI_clamp (by omega), H.2.2.2]; rfl
    by_cases hz : d i = 0
    · obtain ⟨m, hm⟩ := ih (i + 1) (by omega) (fun j hj1 => by
        by_cases z : j = i
        · rw [z]; exact hz
        · exact hj j (by omega))
      refine ⟨m + 1, ?_⟩
      rw [lp_WH_endingZeros_2, H.2.1]
      refine ⟨H.1.1, fun hc => absurd hc (nI_ge (by omega) (by omega)), fun _ => ⟨q, H.1.2.1, H.1.2.2.1, hvi, fun v11 e11 => ⟨fun _ v13 e13 => ?_, fun hc => absurd ?_ hc⟩⟩⟩
      · rw [e13, nI_1]; exact hm
      · rw [e11, ev, hz]; rfl
    · refine ⟨0 + 1, ?_⟩
      rw [lp_WH_endingZeros_2, H.2.1]
      refine ⟨H.1.1, fun hc => absurd hc (nI_ge (by omega) (by omega)), fun _ => ⟨q, H.1.2.1, H.1.2.2.1, hvi, fun v11 e11 => ⟨fun hc => ?_, fun _ => ?_⟩⟩⟩
      · rw [e11, ev] at hc
        exact absurd ((lN_z (by omega)).mp hc) hz
      · rw [e11, ev]
        exact hx i (by omega) hj hz
theorem tz_u {v y z : Nat} (h1 : tz_N v y) (h2 : tz_N v z) : y = z := by
  rcases h1 with ⟨e1, e2⟩ | ⟨j, e1⟩
  · rcases h2 with ⟨_, e4⟩ | ⟨i, e3⟩
    · rw [e2, e4]
    · have := Nat.mul_pos (Nat.two_pow_pos z) (show 0 < 2 * i + 1 by omega)
      omega
  · rcases h2 with ⟨e3, _⟩ | ⟨i, e3⟩
    · have := Nat.mul_pos (Nat.two_pow_pos y) (show 0 < 2 * j + 1 by omega)
      omega
    · have e : 2 ^ y * (2 * j + 1) = 2 ^ z * (2 * i + 1) := e1.symm.trans e3
      rcases Nat.lt_trichotomy y z with hl | hl | hl
      · exfalso
        obtain ⟨k, rfl⟩ : ∃ k, z = y + (k + 1) := ⟨z - y - 1, by omega⟩
        rw [Nat.pow_add, Nat.mul_assoc] at e
        have e5 := Nat.eq_of_mul_eq_mul_left (Nat.two_pow_pos y) e
        rw [Nat.pow_succ, Nat.mul_comm (2 ^ k) 2, Nat.mul_assoc] at e5
        omega
      · exact hl
      · exfalso
        obtain ⟨k, rfl⟩ : ∃ k, y = z + (k + 1) := ⟨y - z - 1, by omega⟩
        rw [Nat.pow_add, Nat.mul_assoc] at e
        have e5 := Nat.eq_of_mul_eq_mul_left (Nat.two_pow_pos z) e
        rw [Nat.pow_succ, Nat.mul_comm (2 ^ k) 2, Nat.mul_assoc] at e5
        omega
/-- endingZeros() -/
theorem s_endingZeros (H : wh_S h w q n ng d) (C : cn_D d n) {z : Nat} (hz : tz_N (dg_v 4294967296 d n) z) {K : Int32 → ah_H → Prop} (hK : K (nI z) h) : w_WH_endingZeros w h K := by
  have hn := C.2.2.2
  unfold w_WH_endingZeros
  refine s_ez_a H C (fun h0 => ?_) (fun i hi h0 hne => ?_) n 0 (by omega) (fun j hj => absurd hj (by omega))
  · rcases hz with ⟨_, e⟩ | ⟨j, e⟩
    · rw [e] at hK; exact hK
    · exfalso
      rw [dg_0 h0] at e
      have := Nat.mul_pos (Nat.two_pow_pos z) (show 0 < 2 * j + 1 by omega)
      omega
  · obtain ⟨k, j, hk, e⟩ := tz_ex 32 (d i) (C.1 i) hne
    have hzz : z = 32 * i + k := by
      apply tz_u hz
      right
      rw [du_sp (show i ≤ n by omega), dg_0 h0, du_s hi, e, Nat.zero_add, BB_2]
      refine ⟨j + 2 ^ (31 - k) * du_v 4294967296 d (i + 1) n, ?_⟩
      have e2 : (4294967296 : Nat) = 2 ^ k * (2 * 2 ^ (31 - k)) := by
        rw [Nat.mul_comm 2 (2 ^ (31 - k)), ← Nat.pow_succ, ← Nat.pow_add, show k + (31 - k + 1) = 32 by omega]
      rw [Nat.pow_add]
      generalize du_v 4294967296 d (i + 1) n = U
      have e3 : 4294967296 * U = 2 ^ k * (2 * 2 ^ (31 - k)) * U := by rw [← e2]
      rw [e3]
      generalize 2 ^ (31 - k) = X
      generalize 2 ^ k = Y
      grind
    show w_JL_bitCount _ h _
    rw [tz_and e (C.1 i)]
    refine bc_k (by omega) (fun _ => ?_)
    rw [hzz] at hK
    show K ((32 : Int32) * nI i + nI k) h
    rw [show (32 : Int32) = nI 32 from rfl, pk_mul, nI_add]
    exact hK
end WH7
