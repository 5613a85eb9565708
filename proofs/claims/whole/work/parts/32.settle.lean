theorem s_settle_a {h : ah_H} {w q k : Nat} {ng : Bool} (Hq : wq_S h w q) (hk : k ≤ 258) {xt : Nat → Int32 → ah_H → Prop} {K : ah_H → Prop} {cc : Int32} :
    ∀ (m i : Nat) (d : Nat → Nat), k - i ≤ m → i ≤ 258 → xt w cc (wd_S h w q k ng (zr_n d i k)) → ∃ n, lp_WH_settle_2 xt K n w cc (nI i) (wd_S h w q k ng d) := by
  intro m
  induction m with
  | zero =>
    intro i d hm hi hx
    rw [zr_0 (by omega)] at hx
    refine ⟨0 + 1, ?_⟩
    rw [lp_WH_settle_2]
    refine ⟨Hq.1, fun _ => hx, fun hc => absurd ?_ hc⟩
    rw [show ah_I (wd_S h w q k ng d) 0 w = nI k from ws_I0]
    exact nI_le (by omega) (by omega)
  | succ m ih =>
    intro i d hm hi hx
    by_cases hik : k ≤ i
    · rw [zr_0 hik] at hx
      refine ⟨0 + 1, ?_⟩
      rw [lp_WH_settle_2]
      refine ⟨Hq.1, fun _ => hx, fun hc => absurd ?_ hc⟩
      rw [show ah_I (wd_S h w q k ng d) 0 w = nI k from ws_I0]
      exact nI_le hik (by omega)
    · obtain ⟨n, hn⟩ := ih (i + 1) (dg_u d i 0) (by omega) (by omega) (by rw [zr_step (by omega)]; exact hx)
      refine ⟨n + 1, ?_⟩
      rw [lp_WH_settle_2]
      refine ⟨Hq.1, fun hc => absurd hc ?_, fun _ => ⟨q, Hq.2.1, Hq.2.2.1, ?_, fun h13 e13 v17 e17 => ?_⟩⟩
      · rw [show ah_I (wd_S h w q k ng d) 0 w = nI k from ws_I0]
        exact nI_ge (by omega) (by omega)
      · rw [show ah_N (wd_S h w q k ng d) q = 258 from Hq.2.2.2]
        exact vp_in_nI (by omega) (by decide)
      · rw [e13, e17, nI_1, nI_clamp (by omega), show ah_bL (wd_S h w q k ng d) q = lw_n d from ws_b, lN0, lw_u]
        unfold wd_S
        rw [ws_c]
        exact hn
theorem s_settle_b {h : ah_H} {w q : Nat} {ng : Bool} {d : Nat → Nat} (Hq : wq_S h w q) (hd : ∀ i, d i < 2 ^ 63) {xt K : ah_H → Prop} :
    ∀ (c : Nat), c ≤ 258 → xt (wd_S h w q (tr_n d c) ng d) → ∃ n, lp_WH_settle_28 xt K n w (wd_S h w q c ng d) := by
  intro c
  induction c with
  | zero =>
    intro _ hx
    refine ⟨0 + 1, ?_⟩
    rw [lp_WH_settle_28]
    refine ⟨Hq.1, fun _ => hx, fun hc => absurd ?_ hc⟩
    rw [show ah_I (wd_S h w q 0 ng d) 0 w = nI 0 from ws_I0]
    decide
  | succ c ih =>
    intro hc hx
    have e0 : ah_I (wd_S h w q (c + 1) ng d) 0 w = nI (c + 1) := ws_I0
    have e1 : nI (c + 1) - (1 : Int32) = nI c := nI_m1 (n := c + 1) (by omega)
    have e2 : ah_bL (wd_S h w q (c + 1) ng d) q (nI c).toNatClampNeg = lN (d c) := by
      rw [nI_clamp (by omega), show ah_bL (wd_S h w q (c + 1) ng d) q = lw_n d from ws_b]; rfl
    by_cases hz : d c = 0
    · rw [show tr_n d (c + 1) = tr_n d c by simp [tr_n, hz]] at hx
      obtain ⟨n, hn⟩ := ih (by omega) hx
      refine ⟨n + 1, ?_⟩
      rw [lp_WH_settle_28]
      refine ⟨Hq.1, fun h1 => absurd h1 ?_, fun _ => ⟨q, Hq.2.1, Hq.2.2.1, ?_, ?_, ?_⟩⟩
      · rw [e0]; exact nI_nle (by omega) (by omega)
      · rw [e0, e1, show ah_N (wd_S h w q (c + 1) ng d) q = 258 from Hq.2.2.2]
        exact vp_in_nI (by omega) (by decide)
      · rw [e0, e1, e2]
        exact fun h1 => absurd ((lN_z (hd c)).mpr hz) h1
      · intro _ v e35 h35 e36
        rw [e36, e35, e0, e1]
        unfold wd_S
        rw [ws_0]
        exact hn
    · rw [show tr_n d (c + 1) = c + 1 by simp [tr_n, hz]] at hx
      refine ⟨0 + 1, ?_⟩
      rw [lp_WH_settle_28]
      refine ⟨Hq.1, fun h1 => absurd h1 ?_, fun _ => ⟨q, Hq.2.1, Hq.2.2.1, ?_, fun _ => hx, ?_⟩⟩
      · rw [e0]; exact nI_nle (by omega) (by omega)
      · rw [e0, e1, show ah_N (wd_S h w q (c + 1) ng d) q = 258 from Hq.2.2.2]
        exact vp_in_nI (by omega) (by decide)
      · rw [e0, e1, e2]
        exact fun h1 => absurd ((lN_z (hd c)).mp h1) hz
/-- settle(count): zeros from count to the old size, then the size without zeros at the top -/
theorem s_settle {h : ah_H} {w q k c : Nat} {ng : Bool} {d : Nat → Nat} (H : wh_S h w q k ng d) (hk : k ≤ 258) (hc : c ≤ 258) (hd : ∀ i, d i < 2 ^ 63) {K : ah_H → Prop} (hK : K (wd_S h w q (tr_n (zr_n d c k) c) ng (zr_n d c k))) : w_WH_settle w (nI c) h K := by
  have Hq := H.1
  rw [wh_eq H]
  refine s_settle_a Hq hk k c d (by omega) hc ⟨Hq.1, fun h22 e22 => ?_⟩
  rw [e22]
  unfold wd_S
  rw [ws_0]
  refine s_settle_b Hq (fun i => ?_) c hc ?_
  · unfold zr_n; split
    · decide
    · exact hd i
  · exact hK
