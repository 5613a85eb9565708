section WH2
variable {h : ah_H} {w q n : Nat} {ng : Bool} {d : Nat → Nat}
theorem BB_2 (k : Nat) : (4294967296 : Nat) ^ k = 2 ^ (32 * k) := by rw [show (4294967296 : Nat) = 2 ^ 32 by decide, ← Nat.pow_mul]
theorem cn_258 (C : cn_D d n) : ∀ i, 258 ≤ i → d i = 0 := fun i hi => C.2.1 i (Nat.le_trans C.2.2.2 hi)
theorem bl_top {n c : Nat} (C : cn_D d (n + 1)) (hc : bl_N (d n) c) : bl_N (dg_v 4294967296 d (n + 1)) (32 * n + c) := by
  have h1 : dg_v 4294967296 d n < 4294967296 ^ n := dg_lt (fun i _ => C.1 i)
  have hv : dg_v 4294967296 d (n + 1) = dg_v 4294967296 d n + d n * 4294967296 ^ n := rfl
  have hne : d n ≠ 0 := by
    rcases C.2.2.1 with e | e
    · omega
    · simpa using e
  have e1 : 2 ^ (32 * n + c) = 2 ^ c * 4294967296 ^ n := by rw [BB_2, Nat.pow_add, Nat.mul_comm]
  refine ⟨?_, Or.inr ?_⟩
  · rw [e1, hv]
    have h2 : (d n + 1) * 4294967296 ^ n ≤ 2 ^ c * 4294967296 ^ n := Nat.mul_le_mul_right _ hc.1
    rw [Nat.add_mul, Nat.one_mul] at h2
    omega
  · rcases hc.2 with e | e
    · have := hc.1
      rw [e] at this
      omega
    · have hc0 : 0 < c := by
        rcases Nat.eq_zero_or_pos c with z | z
        · have := hc.1
          rw [z] at this
          omega
        · exact z
      rw [show 32 * n + c - 1 = 32 * n + (c - 1) by omega, Nat.pow_add, ← BB_2, hv, Nat.mul_comm]
      have h2 : 2 ^ (c - 1) * 4294967296 ^ n ≤ d n * 4294967296 ^ n := Nat.mul_le_mul_right _ e
      omega
/-- bits() -/
theorem s_bits (H : wh_S h w q n ng d) (C : cn_D d n) {b : Nat} (hb : bl_N (dg_v 4294967296 d n) b) {K : Int32 → ah_H → Prop} (hK : K (nI b) h) : w_WH_bits w h K := by
  have hn := C.2.2.2
  unfold w_WH_bits
  refine ⟨H.1.1, fun hz => ?_, fun hz => ?_⟩
  · have h0 : n = 0 := by
      rcases Nat.eq_zero_or_pos n with e | e
      · exact e
      · exact absurd (by rw [← H.2.1]; exact hz) (nI_nle e (by omega))
    subst h0
    have : b = 0 := bl_u hb ⟨by simp [dg_v], Or.inl rfl⟩
    rw [this] at hK
    exact hK
  · have hp : 0 < n := by
      rcases Nat.eq_zero_or_pos n with e | e
      · subst e; exact absurd (by rw [H.2.1]; decide) hz
      · exact e
    obtain ⟨k, rfl⟩ : ∃ k, n = k + 1 := ⟨n - 1, by omega⟩
    obtain ⟨c, hc32, hc⟩ := bl_ex 32 (d k) (C.1 k)
    have e1 : ah_I h 0 w - (1 : Int32) = nI k := by rw [H.2.1]; exact nI_m1 (n := k + 1) (by omega)
    refine ⟨q, H.1.2.1, H.1.2.2.1, ?_, ?_⟩
    · rw [e1, H.1.2.2.2]; exact vp_in_nI (by omega) (by decide)
    · rw [e1, nI_clamp (by omega), H.2.2.2]
      refine s_bitsOf (C.1 k) hc (fun _ => ?_)
      have : b = 32 * k + c := bl_u hb (bl_top C hc)
      rw [this] at hK
      show K ((32 : Int32) * nI k + nI c) h
      rw [show (32 : Int32) = nI 32 from rfl, pk_mul, nI_add]
      exact hK
/-- clear() -/
theorem s_clear (H : wh_S h w q n ng d) (hn : n ≤ 258) (h1 : ∀ i, d i < 2 ^ 63) (h2 : ∀ i, n ≤ i → d i = 0) {K : ah_H → Prop} (hK : K (wd_S h w q 0 false (fun _ => 0))) : w_WH_clear w h K := by
  unfold w_WH_clear
  refine ⟨H.1.1, s_settle (c := 0) H hn (by omega) h1 (fun _ h6 e6 => ?_)⟩
  have hz : zr_n d 0 n = fun _ => 0 := by
    funext i; unfold zr_n
    by_cases hi : i < n
    · rw [if_pos ⟨Nat.zero_le _, hi⟩]
    · rw [if_neg (by omega), h2 i (by omega)]
  rw [e6, hz]
  unfold wd_S
  rw [ws_1]
  exact hK
theorem lo_eq {a b : Nat} (ha : a < 4294967296) (hb : b < 4294967296) : (lN b <<< ((32 : Int32).toInt64 &&& 63)) ||| lN a = lN (b * 4294967296 + a) := by
  rw [show (32 : Int32) = nI 32 from rfl, wb_shl b (k := 32) (by decide)]
  exact g_or (k := 32) rfl ha (by have : b * 4294967296 ≤ 4294967295 * 4294967296 := Nat.mul_le_mul_right _ (by omega); omega)
/-- lowestLong() -/
theorem s_lowestLong (H : wh_S h w q n ng d) (h1 : ∀ i, d i < 4294967296) {K : Int64 → ah_H → Prop} (hK : K (lN (d 1 * 4294967296 + d 0)) h) : w_WH_lowestLong w h K := by
  unfold w_WH_lowestLong
  refine ⟨H.1.1, q, H.1.2.1, H.1.2.2.1, ?_, q, H.1.2.1, H.1.2.2.1, ?_, ?_⟩
  · rw [H.1.2.2.2]; exact vp_in_nI (n := 1) (by decide) (by decide)
  · rw [H.1.2.2.2]; exact vp_in_nI (n := 0) (by decide) (by decide)
  · rw [H.2.2.2]
    show K ((lN (d 1) <<< ((32 : Int32).toInt64 &&& 63)) ||| lN (d 0)) h
    rw [lo_eq (h1 0) (h1 1)]
    exact hK
theorem dg_2 (C : cn_D d n) (hn : n ≤ 2) : dg_v 4294967296 d n = d 1 * 4294967296 + d 0 := by
  have h1 : dg_v 4294967296 d 2 = dg_v 4294967296 d n := dg_z hn (fun i h1 _ => C.2.1 i h1)
  rw [← h1]
  show (0 + d 0 * 4294967296 ^ 0) + d 1 * 4294967296 ^ 1 = _
  rw [Nat.pow_zero, Nat.pow_one, Nat.mul_one]
  omega
theorem dg_3 (C : cn_D d n) (hn : 2 < n) : 4294967296 ^ 2 ≤ dg_v 4294967296 d n := by
  obtain ⟨k, rfl⟩ : ∃ k, n = k + 1 := ⟨n - 1, by omega⟩
  have hne : d k ≠ 0 := by
    rcases C.2.2.1 with e | e
    · omega
    · simpa using e
  exact Nat.le_trans (Nat.pow_le_pow_right (by decide) (by omega)) (dg_ge hne)
/-- a long's numbers -/
def fl_Z (z : Int) : Prop := -9223372036854775808 ≤ z ∧ z < 9223372036854775808
theorem lN_sg {m : Nat} (h : m < 18446744073709551616) : (0 : Int64) ≤ lN m ↔ m < 9223372036854775808 := by
  rw [Int64.le_iff_toInt_le, lN_ti h, Int64.toInt_zero]
  split <;> omega
/-- isLong() -/
theorem s_isLong (H : wh_S h w q n ng d) (C : cn_D d n) {K : Int32 → ah_H → Prop} (hK : ∀ b : Bool, (b = true ↔ fl_Z (sg_Z ng (dg_v 4294967296 d n))) → K (bi_n b) h) : w_WH_isLong w h K := by
  have hn := C.2.2.2
  have hd0 := C.1 0
  have hd1 := C.1 1
  have k0 : ¬ fl_Z (sg_Z ng (dg_v 4294967296 d n)) → K 0 h := fun hf => hK false ⟨fun z => (by cases z), fun z => absurd z hf⟩
  have k1 : fl_Z (sg_Z ng (dg_v 4294967296 d n)) → K 1 h := fun hf => hK true ⟨fun _ => hf, fun _ => rfl⟩
  unfold w_WH_isLong
  refine ⟨H.1.1, s_lowestLong H C.1 (fun _ => ⟨fun h2 => ⟨Or.inl rfl, k0 ?_⟩, fun h2 => ?_⟩)⟩
  · have : 2 < n := by
      have h3 := h2
      rw [H.2.1] at h3
      exact (nI_ltI (a := 2) (by decide) (by omega)).mp h3
    have h4 := dg_3 C this
    have h5 : (4294967296 : Nat) ^ 2 = 18446744073709551616 := by decide
    unfold fl_Z sg_Z
    split <;> omega
  · have hn2 : n ≤ 2 := by
      apply Nat.le_of_not_lt
      intro h3
      apply h2
      rw [H.2.1]
      exact (nI_ltI (a := 2) (by decide) (by omega)).mpr h3
    have hv := dg_2 C hn2
    generalize hu : d 1 * 4294967296 + d 0 = u at hv ⊢
    have hu64 : u < 18446744073709551616 := by
      have : d 1 * 4294967296 ≤ 4294967295 * 4294967296 := Nat.mul_le_mul_right _ (by omega)
      have e : (4294967295 : Nat) * 4294967296 = 18446744069414584320 := by decide
      omega
    refine ⟨fun h3 => ⟨Or.inr rfl, k1 ?_⟩, fun h3 => ⟨fun h4 => ⟨Or.inl rfl, k0 ?_⟩, fun h4 => ⟨fun h5 => ⟨Or.inl rfl, k0 ?_⟩, fun h5 => ⟨Or.inr rfl, k1 ?_⟩⟩⟩⟩
    · have := (lN_sg hu64).mp h3
      rw [hv]
      unfold fl_Z sg_Z
      split <;> omega
    · have h6 : ¬ u < 9223372036854775808 := fun z => h3 ((lN_sg hu64).mpr z)
      rw [H.2.2.1, bi_0] at h4
      rw [hv, h4]
      unfold fl_Z sg_Z
      simp
      omega
    · have h6 : ¬ u < 9223372036854775808 := fun z => h3 ((lN_sg hu64).mpr z)
      have h7 : u ≠ 9223372036854775808 := fun z => h5 (by rw [z]; rfl)
      rw [hv]
      unfold fl_Z sg_Z
      split <;> omega
    · have h7 : u = 9223372036854775808 := by
        have e1 : (lN u).toBitVec.toNat = u := lN_nat hu64
        rw [h5] at e1
        rw [← e1]
        decide
      have h8 : ng = true := by
        cases ng
        · exact absurd (by rw [H.2.2.1]; rfl) h4
        · rfl
      rw [hv, h7, h8]
      unfold fl_Z sg_Z
      simp
theorem ofI_n (m : Nat) : lN m = Int64.ofInt (m : Int) := by
  apply Int64.toBitVec_inj.mp
  show BitVec.ofNat 64 m = BitVec.ofInt 64 (m : Int)
  simp
theorem sg_f (u : Nat) : sg_Z false u = (u : Int) := rfl
theorem sg_t (u : Nat) : sg_Z true u = -(u : Int) := rfl
/-- asLong() -/
theorem s_asLong (H : wh_S h w q n ng d) (C : cn_D d n) (hn2 : n ≤ 2) {K : Int64 → ah_H → Prop} (hK : K (Int64.ofInt (sg_Z ng (dg_v 4294967296 d n))) h) : w_WH_asLong w h K := by
  have hv := dg_2 C hn2
  have hl := fun (K : Int64 → ah_H → Prop) => s_lowestLong (K := K) H C.1
  generalize d 1 * 4294967296 + d 0 = u at hv hl
  rw [hv] at hK
  unfold w_WH_asLong
  refine ⟨H.1.1, fun h1 => hl _ (fun _ => ?_), fun h1 => hl _ (fun _ => ?_)⟩
  · rw [H.2.2.1, bi_0] at h1
    rw [h1, sg_f, ← ofI_n] at hK
    exact hK
  · have h8 : ng = true := by
      cases ng
      · exact absurd (by rw [H.2.2.1]; rfl) h1
      · rfl
    rw [h8, sg_t, Int64.ofInt_neg, ← ofI_n] at hK
    exact hK
end WH2
