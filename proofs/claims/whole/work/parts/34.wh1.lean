section WH1
variable {h : ah_H} {w q n : Nat} {ng : Bool} {d : Nat → Nat}
theorem wh_s1 (H : wh_S h w q n ng d) (x : Int32) : ah_sI h 1 w x = ws_S h w q (nI n) x (lw_n d) := by
  conv => lhs; rw [wh_eq H]
  unfold wd_S
  rw [ws_1]
theorem wh_s0 (H : wh_S h w q n ng d) (x : Int32) : ah_sI h 0 w x = ws_S h w q x (bi_n ng) (lw_n d) := by
  conv => lhs; rw [wh_eq H]
  unfold wd_S
  rw [ws_0]
theorem wh_c (H : wh_S h w q n ng d) (L : Nat → Int64) : ah_cL h q L = ws_S h w q (nI n) (bi_n ng) L := by
  conv => lhs; rw [wh_eq H]
  unfold wd_S
  rw [ws_c]
theorem bi_01 (b : Bool) : bi_n b = 0 ∨ bi_n b = 1 := by cases b <;> simp [bi_n]
theorem bi_0 {b : Bool} : bi_n b = 0 ↔ b = false := by cases b <;> simp [bi_n]
theorem s_ms17 (H : wh_S h w q n ng d) (b : Bool) {K : ah_H → Prop} (hK : K (wd_S h w q n b d)) : bk_WH_markSign_17 K (bi_n b) w h :=
  ⟨H.1.1, bi_01 b, fun h11 e => by rw [e, wh_s1 H]; exact hK⟩
/-- markSign(below) -/
theorem s_markSign (H : wh_S h w q n ng d) (hn : n ≤ 258) (b : Bool) {K : ah_H → Prop} (hK : K (wd_S h w q n (b && decide (0 < n)) d)) : w_WH_markSign w (bi_n b) h K := by
  unfold w_WH_markSign
  refine ⟨fun hb => ?_, fun hb => ⟨H.1.1, fun hz => ?_, fun hz => ?_⟩⟩
  · rw [bi_0.mp hb] at hK
    exact s_ms17 H false hK
  · have h0 : n = 0 := by
      rcases Nat.eq_zero_or_pos n with e | e
      · exact e
      · exact absurd (by rw [← H.2.1]; exact hz) (nI_nle e (by omega))
    rw [h0] at hK
    rw [show (b && decide (0 < 0)) = false by simp] at hK
    subst h0
    exact s_ms17 H false hK
  · have hp : 0 < n := by
      rcases Nat.eq_zero_or_pos n with e | e
      · subst e; exact absurd (by rw [H.2.1]; decide) hz
      · exact e
    have ht : b = true := by
      cases b
      · exact absurd rfl hb
      · rfl
    rw [ht, show (true && decide (0 < n)) = true by simp [hp]] at hK
    exact s_ms17 H true hK
theorem cpy_lw {d d2 : Nat → Nat} (h1 : ∀ i, 258 ≤ i → d i = 0) (h2 : ∀ i, 258 ≤ i → d2 i = 0) : va_cpy (lw_n d2) (lw_n d) 0 0 258 = lw_n d2 := by
  funext k
  unfold va_cpy lw_n
  by_cases hk : 0 ≤ k ∧ k < 0 + 258
  · rw [if_pos hk]; simp
  · rw [if_neg hk, h1 k (by omega), h2 k (by omega)]
/-- become(other) -/
theorem s_become {o p n2 : Nat} {ng2 : Bool} {d2 : Nat → Nat} (H : wh_S h w q n ng d) (O : wh_S h o p n2 ng2 d2) (h1 : ∀ i, 258 ≤ i → d i = 0) (h2 : ∀ i, 258 ≤ i → d2 i = 0) {K : ah_H → Prop} (hK : K (wd_S h w q n2 ng2 d2)) : w_WH_become w o h K := by
  unfold w_WH_become
  refine ⟨O.1.1, p, O.1.2.1, H.1.1, q, H.1.2.1, H.1.2.2.1, O.1.2.2.1, by decide, by decide, by decide, ?_, ?_, fun h16 e16 v22 e22 h23 e23 v29 e29 => ⟨?_, fun h31 e31 => ?_⟩⟩
  · rw [O.1.2.2.2]; decide
  · rw [H.1.2.2.2]; decide
  · have : v29 = bi_n ng2 := by
      rw [e29, e23, e16]
      show ah_u2 (ah_I h) 0 w v22 1 o = _
      rw [u2_k _ _ (by decide)]
      exact O.2.2.1
    rw [this]
    exact bi_01 _
  · have ev : v22 = nI n2 := by rw [e22, e16]; exact O.2.1
    have ev2 : v29 = bi_n ng2 := by
      rw [e29, e23, e16]
      show ah_u2 (ah_I h) 0 w v22 1 o = _
      rw [u2_k _ _ (by decide)]
      exact O.2.2.1
    have ec : va_cpy (ah_bL h p) (ah_bL h q) (0 : Int32).toNatClampNeg (0 : Int32).toNatClampNeg (258 : Int32).toNatClampNeg = lw_n d2 := by
      rw [O.2.2.2, H.2.2.2]
      exact cpy_lw h1 h2
    rw [e31, e23, e16, ec, ev, ev2]
    exact hK
/-- at(i), i at a place -/
theorem s_at (H : wh_S h w q n ng d) (hz : ∀ i, 258 ≤ i → d i = 0) {i : Nat} (hi : i < 2 ^ 31) {K : Int64 → ah_H → Prop} (hK : K (lN (d i)) h) : w_WH_at w (nI i) h K := by
  unfold w_WH_at
  refine ⟨fun h1 => absurd h1 (nI_pos hi), fun _ => ⟨fun h1 => ?_, fun h1 => ⟨H.1.1, q, H.1.2.1, H.1.2.2.1, ?_, ?_⟩⟩⟩
  · have : 258 ≤ i := (nI_leI (by decide) hi).mp h1
    rw [hz i this] at hK
    exact hK
  · have : i < 258 := Nat.lt_of_not_le (fun z => h1 ((nI_leI (by decide) hi).mpr z))
    rw [H.1.2.2.2]
    exact vp_in_nI this (by decide)
  · show K (ah_bL h q (nI i).toNatClampNeg) h
    rw [nI_clamp hi, H.2.2.2]
    exact hK
/-- at(i), i below 0 -/
theorem s_atN {i : Int32} (hi : i < 0) {K : Int64 → ah_H → Prop} (hK : K 0 h) : w_WH_at w i h K := ⟨fun _ => hK, fun h1 => absurd hi h1⟩
theorem s_bitsOf_a {m : Nat} (hm : m < 4294967296) {xt : Int32 → ah_H → Prop} {K : Int32 → ah_H → Prop} {b : Nat} (hb : bl_N m b) (hx : xt (nI b) h) :
    ∀ (k c : Nat), b = c + k → ∃ n, lp_WH_bitsOf_2 xt K n (lN m) (nI c) h := by
  have hb32 : b ≤ 32 := by
    rcases hb.2 with e | e
    · omega
    · apply Nat.le_of_not_lt
      intro h9
      have : 2 ^ 32 ≤ 2 ^ (b - 1) := Nat.pow_le_pow_right (by decide) (by omega)
      have : (2 : Nat) ^ 32 = 4294967296 := by decide
      omega
  intro k
  induction k with
  | zero =>
    intro c hc
    have e : c = b := by omega
    subst e
    refine ⟨0 + 1, ?_⟩
    rw [lp_WH_bitsOf_2]
    refine ⟨fun _ => hx, fun h1 => ⟨fun _ => hx, fun h2 => absurd ?_ h2⟩⟩
    have hc32 : c < 32 := Nat.lt_of_not_le (fun z => h1 ((nI_leI (by decide) (by omega)).mpr z))
    rw [wb_shr (by omega) (by omega), Nat.div_eq_of_lt hb.1]
    rfl
  | succ k ih =>
    intro c hc
    obtain ⟨n, hn⟩ := ih (c + 1) (by omega)
    refine ⟨n + 1, ?_⟩
    rw [lp_WH_bitsOf_2]
    refine ⟨fun h1 => ?_, fun h1 => ⟨fun h2 => ?_, fun h2 => fun v7 e7 => ?_⟩⟩
    · have := (nI_leI (a := 32) (b := c) (by decide) (by omega)).mp h1
      omega
    · exfalso
      rw [wb_shr (by omega) (by omega), lN_z (Nat.lt_of_le_of_lt (Nat.div_le_self _ _) (by omega))] at h2
      rcases hb.2 with e | e
      · omega
      · have h3 : 2 ^ c ≤ 2 ^ (b - 1) := Nat.pow_le_pow_right (by decide) (by omega)
        have h4 := Nat.div_pos (Nat.le_trans h3 e) (Nat.two_pow_pos c)
        omega
    · rw [e7, nI_1]
      exact hn
/-- bitsOf(limb) -/
theorem s_bitsOf {m b : Nat} (hm : m < 4294967296) (hb : bl_N m b) {K : Int32 → ah_H → Prop} (hK : K (nI b) h) : w_WH_bitsOf (lN m) h K := by
  unfold w_WH_bitsOf
  obtain ⟨n, hn⟩ := s_bitsOf_a (h := h) (xt := fun (x8 : Int32) h9 => bk_WH_bitsOf_22 K x8 h9) (K := K) hm hb hK b 0 (by omega)
  exact ⟨n, hn⟩
theorem bl_ex : ∀ (k m : Nat), m < 2 ^ k → ∃ b, b ≤ k ∧ bl_N m b := by
  intro k
  induction k with
  | zero => intro m hm; exact ⟨0, Nat.le_refl _, hm, Or.inl rfl⟩
  | succ k ih =>
    intro m hm
    by_cases h1 : m < 2 ^ k
    · obtain ⟨b, h2, h3⟩ := ih m h1
      exact ⟨b, by omega, h3⟩
    · exact ⟨k + 1, Nat.le_refl _, hm, Or.inr (by simpa using Nat.le_of_not_lt h1)⟩
end WH1
