/-- settle, where only what is left of the limbs is known to be limbs -/
theorem s_settle' {h : ah_H} {w q k c : Nat} {ng : Bool} {d : Nat → Nat} (H : wh_S h w q k ng d) (hk : k ≤ 258) (hc : c ≤ 258) (hd : ∀ i, zr_n d c k i < 4294967296) {K : ah_H → Prop} (hK : K (wd_S h w q (tr_n (zr_n d c k) c) ng (zr_n d c k))) : w_WH_settle w (nI c) h K := by
  have Hq := H.1
  rw [wh_eq H]
  refine s_settle_a Hq hk k c d (by omega) hc ⟨Hq.1, fun h22 e22 => ?_⟩
  rw [e22]
  unfold wd_S
  rw [ws_0]
  exact s_settle_b Hq (fun i => Nat.lt_trans (hd i) (by decide)) c hc hK
