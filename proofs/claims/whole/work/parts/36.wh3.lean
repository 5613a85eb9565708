section WH3
variable {h : ah_H} {w q n : Nat} {ng : Bool} {d : Nat → Nat}
theorem wd_wd {n' : Nat} {ng' : Bool} {d' : Nat → Nat} : wd_S (wd_S h w q n ng d) w q n' ng' d' = wd_S h w q n' ng' d' := ws_ws
theorem wd_q {w' q' : Nat} (H : wq_S h w' q') : wq_S (wd_S h w q n ng d) w' q' := H
theorem wh_up (H : wh_S h w q n ng d) (i x : Nat) : ah_cL h q (vp_updL (ah_bL h q) i (lN x)) = wd_S h w q n ng (dg_u d i x) := by
  rw [wh_c H, H.2.2.2, lw_u]; rfl
theorem ms_k {m : Nat} (h : m < 18446744073709551616) : lN m &&& (4294967295 : Int64) = lN (m % 4294967296) := wb_mask (k := 32) h (by decide)
theorem sh_k {m : Nat} (h : m < 18446744073709551616) : ((lN m).toUInt64 >>> ((32 : Int32).toInt64.toUInt64 &&& Int64.toUInt64 63)).toInt64 = lN (m / 4294967296) := wb_shr (k := 32) h (by decide)
theorem zr_2 {m n : Nat} (h2 : ∀ i, n ≤ i → d i = 0) (i : Nat) (hi : 2 ≤ i) : zr_n (dg_u (dg_u d 0 (m % 4294967296)) 1 (m / 4294967296)) 2 n i = 0 := by
  unfold zr_n
  by_cases hn : i < n
  · rw [if_pos ⟨hi, hn⟩]
  · rw [if_neg (by omega), dg_un (by omega), dg_un (by omega), h2 i (by omega)]
theorem s_bl12 (H : wh_S h w q n ng d) (hn : n ≤ 258) (h1 : ∀ i, d i < 4294967296) (h2 : ∀ i, n ≤ i → d i = 0) {m : Nat} (hm : m < 18446744073709551616) {x : Int64} {K : ah_H → Prop}
    (hK : ∀ (n' : Nat) (d' : Nat → Nat), cn_D d' n' → dg_v 4294967296 d' n' = m → K (wd_S h w q n' (decide (x < 0) && decide (0 < n')) d')) : bk_WH_becomeLong_12 K w x (lN m) h := by
  unfold bk_WH_becomeLong_12
  refine ⟨H.1.1, q, H.1.2.1, fun v11 e11 => ⟨H.1.2.2.1, ?_, fun h14 e14 => ⟨q, ?_, fun v20 e20 => ⟨?_, ?_, fun h23 e23 => ?_⟩⟩⟩⟩
  · rw [H.1.2.2.2]; exact vp_in_nI (n := 0) (by decide) (by decide)
  · rw [e14]; exact H.1.2.1
  · rw [e14]; exact H.1.2.2.1
  · rw [e14, show ah_N (ah_cL h q _) q = 258 from H.1.2.2.2]; exact vp_in_nI (n := 1) (by decide) (by decide)
  · rw [e11, ms_k hm] at e14
    rw [show (0 : Int32).toNatClampNeg = 0 from rfl, wh_up H] at e14
    have H1 : wh_S h14 w q n ng (dg_u d 0 (m % 4294967296)) := by rw [e14]; exact wh_wd H.1
    rw [e20, sh_k hm, show (1 : Int32).toNatClampNeg = 1 from rfl, wh_up H1, e14, wd_wd] at e23
    have H2 : wh_S h23 w q n ng (dg_u (dg_u d 0 (m % 4294967296)) 1 (m / 4294967296)) := by rw [e23]; exact wh_wd H.1
    have hq : m / 4294967296 < 4294967296 := Nat.div_lt_of_lt_mul (by omega)
    have hr : m % 4294967296 < 4294967296 := Nat.mod_lt _ (by decide)
    have hb : ∀ i, dg_u (dg_u d 0 (m % 4294967296)) 1 (m / 4294967296) i < 4294967296 := by
      intro i
      by_cases e1 : i = 1
      · rw [e1, dg_us]; exact hq
      · rw [dg_un e1]
        by_cases e0 : i = 0
        · rw [e0, dg_us]; exact hr
        · rw [dg_un e0]; exact h1 i
    have hz := fun i hi => zr_2 (m := m) h2 i hi
    refine s_settle (c := 2) H2 hn (by decide) (fun i => Nat.lt_trans (hb i) (by decide)) (fun _ => ?_)
    have hb' : ∀ i, zr_n (dg_u (dg_u d 0 (m % 4294967296)) 1 (m / 4294967296)) 2 n i < 4294967296 := by
      intro i
      unfold zr_n
      split
      · decide
      · exact hb i
    have e0 : zr_n (dg_u (dg_u d 0 (m % 4294967296)) 1 (m / 4294967296)) 2 n 0 = m % 4294967296 := by
      unfold zr_n
      rw [if_neg (by omega), dg_un (by decide), dg_us]
    have e1 : zr_n (dg_u (dg_u d 0 (m % 4294967296)) 1 (m / 4294967296)) 2 n 1 = m / 4294967296 := by
      unfold zr_n
      rw [if_neg (by omega), dg_us]
    generalize zr_n (dg_u (dg_u d 0 (m % 4294967296)) 1 (m / 4294967296)) 2 n = d3 at hz hb' e0 e1 ⊢
    have hC := cn_tr (c := 2) hb' (fun i hi => hz i hi) (by decide)
    have hv : dg_v 4294967296 d3 (tr_n d3 2) = m := by
      rw [tr_v]
      show (0 + d3 0 * 4294967296 ^ 0) + d3 1 * 4294967296 ^ 1 = m
      rw [e0, e1, Nat.pow_zero, Nat.pow_one, Nat.mul_one]
      have := Nat.div_add_mod m 4294967296
      omega
    have hk := hK (tr_n d3 2) d3 hC hv
    generalize tr_n d3 2 = n3 at hC hk ⊢
    have H3 : wh_S (wd_S h23 w q n3 ng d3) w q n3 ng d3 := wh_wd (by rw [e23]; exact H.1)
    have e3 : wd_S h23 w q n3 ng d3 = wd_S h w q n3 ng d3 := by rw [e23, wd_wd]
    have key : ∀ b : Bool, b = decide (x < 0) → bk_WH_becomeLong_51 K (bi_n b) w (wd_S h23 w q n3 ng d3) := by
      intro b hbx
      refine ⟨H3.1.1, s_markSign H3 hC.2.2.2 b (fun _ => ?_)⟩
      rw [e3, wd_wd, hbx]
      exact hk
    exact ⟨fun hx => key false (by simp [Int64.not_lt.mpr hx]), fun hx => key true (by simp [Int64.not_le.mp hx])⟩
theorem ab_1 {v : Int64} (h : (0 : Int64) ≤ v) : v = lN v.toInt.natAbs ∧ v.toInt.natAbs < 9223372036854775808 := by
  have h1 : 0 ≤ v.toInt := by
    have := Int64.le_iff_toInt_le.mp h
    rwa [Int64.toInt_zero] at this
  have h2 := Int64.toInt_lt v
  refine ⟨?_, by omega⟩
  rw [ofI_n, show ((v.toInt.natAbs : Nat) : Int) = v.toInt by omega, Int64.ofInt_toInt]
theorem ab_2 {v : Int64} (h : ¬ (0 : Int64) ≤ v) : -v = lN v.toInt.natAbs ∧ v.toInt.natAbs ≤ 9223372036854775808 := by
  have h1 : v.toInt < 0 := Int.not_le.mp (fun h9 => h (by rw [Int64.le_iff_toInt_le, Int64.toInt_zero]; exact h9))
  have h2 := Int64.le_toInt v
  refine ⟨?_, by omega⟩
  rw [ofI_n, show ((v.toInt.natAbs : Nat) : Int) = -v.toInt by omega, Int64.ofInt_neg, Int64.ofInt_toInt]
/-- becomeLong(v) -/
theorem s_becomeLong (H : wh_S h w q n ng d) (hn : n ≤ 258) (h1 : ∀ i, d i < 4294967296) (h2 : ∀ i, n ≤ i → d i = 0) {v : Int64} {K : ah_H → Prop}
    (hK : ∀ (n' : Nat) (d' : Nat → Nat) (b : Bool), cn_D d' n' → (b = true → n' ≠ 0) → sg_Z b (dg_v 4294967296 d' n') = v.toInt → K (wd_S h w q n' b d')) : w_WH_becomeLong w v h K := by
  unfold w_WH_becomeLong
  refine ⟨fun hv => ?_, fun hv => ?_⟩
  · obtain ⟨e, hm⟩ := ab_1 hv
    have h3 : 0 ≤ v.toInt := by
      have := Int64.le_iff_toInt_le.mp hv
      rwa [Int64.toInt_zero] at this
    have hb : decide (v < 0) = false := by simp [Int64.not_lt.mpr hv]
    rw [show bk_WH_becomeLong_12 K w v v h = bk_WH_becomeLong_12 K w v (lN v.toInt.natAbs) h by rw [← e]]
    refine s_bl12 H hn h1 h2 (by omega) (fun n' d' C hv' => ?_)
    rw [hb, Bool.false_and]
    refine hK n' d' false C (fun z => (by cases z)) ?_
    rw [hv', sg_f]; omega
  · obtain ⟨e, hm⟩ := ab_2 hv
    have h3 : v.toInt < 0 := Int.not_le.mp (fun h9 => hv (by rw [Int64.le_iff_toInt_le, Int64.toInt_zero]; exact h9))
    have hb : decide (v < 0) = true := by simp [Int64.not_le.mp hv]
    rw [e]
    refine s_bl12 H hn h1 h2 (by omega) (fun n' d' C hv' => ?_)
    have hp : 0 < n' := by
      rcases Nat.eq_zero_or_pos n' with z | z
      · rw [z] at hv'
        have : dg_v 4294967296 d' 0 = 0 := rfl
        omega
      · exact z
    rw [hb, Bool.true_and, show decide (0 < n') = true by simp [hp]]
    refine hK n' d' true C (fun _ => by omega) ?_
    rw [hv', sg_t]; omega
end WH3
