section DV3
variable {h : ah_H} {dv Q R S qR qS nr ns : Nat} {ngr ngs : Bool} {D : Nat → Nat}
/-- one limb's difference -/
theorem df_2 {x y : Nat} (hx : x < 4294967296) (hy : y < 4294967296) : ∃ m c, lN x - lN y = lN m ∧ lN m &&& (4294967295 : Int64) = lN (x + c * 4294967296 - y) ∧ ((lN m).toUInt64 >>> ((63 : Int32).toInt64.toUInt64 &&& Int64.toUInt64 63)).toInt64 = lN c ∧ c ≤ 1 ∧ y ≤ x + c * 4294967296 ∧ x + c * 4294967296 - y < 4294967296 ∧ (lN m < 0 ↔ c = 1) ∧ (c = 1 → x < y) := by
  obtain ⟨m, c, h1, h2, h3, h4, h5, h6, h7, h8⟩ := df_k hx hy (b := 0) (by decide)
  refine ⟨m, c, ?_, h3, h4, h5, by omega, by omega, h8, fun hc => ?_⟩
  · rw [← h1]
    show lN x - lN y = lN x - lN y - 0
    rw [Int64.sub_zero]
  · subst hc; omega
theorem ta_step {B E0 E Dv x r y k c c' g Di Z : Nat} (inv : E0 + c * Z = E + g * Dv) (hr : r + y = x + c' * B) (hp : B * k + y = g * Di + c) : E0 + x * Z + (k + c') * (B * Z) = E + r * Z + g * (Dv + Di * Z) := by
  have h1 : r * Z + y * Z = x * Z + c' * B * Z := by rw [← Nat.add_mul, hr, Nat.add_mul]
  have h2 : B * k * Z + y * Z = g * Di * Z + c * Z := by rw [← Nat.add_mul, hp, Nat.add_mul]
  have e1 : (k + c') * (B * Z) = B * k * Z + c' * B * Z := by rw [Nat.add_mul]; congr 1 <;> ac_rfl
  have e2 : g * (Dv + Di * Z) = g * Dv + g * Di * Z := by rw [Nat.mul_add]; congr 1; ac_rfl
  rw [e1, e2]
  omega
theorem ta_c {g d c : Nat} (hg : g < 4294967296) (hd : d < 4294967296) (hc : c < 4294967296) : g * d + c < 18446744073709551616 ∧ (g * d + c) / 4294967296 < 4294967296 ∧ ((g * d + c) / 4294967296 = 4294967295 → (g * d + c) % 4294967296 = 0) := by
  have h1 : g * d ≤ 4294967295 * 4294967295 := Nat.mul_le_mul (by omega) (by omega)
  have h2 : (4294967295 : Nat) * 4294967295 = 18446744065119617025 := by decide
  rw [h2] at h1
  generalize g * d = X at h1
  refine ⟨by omega, by omega, by omega⟩
theorem dw_s {e0 e : Nat → Nat} {j i x : Nat} : dg_v 4294967296 (fun k => dg_u e (j + i) x (j + k)) (i + 1) = dg_v 4294967296 (fun k => e (j + k)) i + x * 4294967296 ^ i := by
  rw [dw_u, dg_s1]
theorem p_s (i : Nat) : (4294967296 : Nat) ^ (i + 1) = 4294967296 * 4294967296 ^ i := by rw [Nat.pow_succ, Nat.mul_comm]
theorem s_ta_a (Rq : wq_S h R qR) (Sw : wh_S h S qS ns ngs D) (hD : ∀ i, D i < 4294967296) (hq : qS ≠ qR) {j n g : Nat} {e0 : Nat → Nat} (hj : j + n ≤ 257) (hg : g < 4294967296) (he0 : ∀ i, e0 i < 4294967296) {xt : Int32 → Nat → Int32 → Int64 → ah_H → Prop} {K : Int32 → ah_H → Prop}
    (hx : ∀ (e : Nat → Nat) (c : Nat), (∀ i, e i < 4294967296) → (∀ l, (l < j ∨ j + n ≤ l) → e l = e0 l) → c < 4294967296 → dg_v 4294967296 (fun k => e0 (j + k)) n + c * 4294967296 ^ n = dg_v 4294967296 (fun k => e (j + k)) n + g * dg_v 4294967296 D n → xt (nI j) qR (nI n) (lN c) (wd_S h R qR nr ngr e)) :
    ∀ (k i : Nat) (e : Nat → Nat) (c : Nat), n = i + k → (∀ i, e i < 4294967296) → (∀ l, (l < j ∨ j + i ≤ l) → e l = e0 l) → c < 4294967296 → dg_v 4294967296 (fun k => e0 (j + k)) i + c * 4294967296 ^ i = dg_v 4294967296 (fun k => e (j + k)) i + g * dg_v 4294967296 D i → ∃ m, lp_DV_takeAway_33 xt K m (nI j) (lN g) qR qS (nI n) (lN c) (nI i) (wd_S h R qR nr ngr e) := by
  intro k
  induction k with
  | zero =>
    intro i e c hi h1 h2 h3 h4
    have e0' : i = n := by omega
    subst e0'
    refine ⟨0 + 1, ?_⟩
    rw [lp_DV_takeAway_33]
    exact ⟨fun _ => hx e c h1 h2 h3 h4, fun hc => absurd (nI_le (Nat.le_refl i) (by omega)) hc⟩
  | succ k ih =>
    intro i e c hi h1 h2 h3 h4
    have H : wh_S (wd_S h R qR nr ngr e) R qR nr ngr e := wh_wd Rq
    obtain ⟨p1, p2, p3⟩ := ta_c hg (hD i) h3
    have hdm := Nat.div_add_mod (g * D i + c) 4294967296
    have hmo : (g * D i + c) % 4294967296 < 4294967296 := Nat.mod_lt _ (by decide)
    obtain ⟨v, c', d1, d2, d3, d4, d5, d6, d7, d8⟩ := df_2 (he0 (j + i)) hmo
    have hst := ta_step (B := 4294967296) (x := e0 (j + i)) (r := e0 (j + i) + c' * 4294967296 - (g * D i + c) % 4294967296) (y := (g * D i + c) % 4294967296) (c' := c') h4 (by omega) hdm
    rw [← p_s] at hst
    have hc2 : (g * D i + c) / 4294967296 + c' < 4294967296 := by
      rcases Nat.lt_or_ge ((g * D i + c) / 4294967296) 4294967295 with z | z
      · omega
      · have := p3 (by omega)
        have : c' ≠ 1 := fun z => by have := d8 z; omega
        omega
    generalize e0 (j + i) + c' * 4294967296 - (g * D i + c) % 4294967296 = r at d2 d6 hst
    obtain ⟨m, hm⟩ := ih (i + 1) (dg_u e (j + i) r) ((g * D i + c) / 4294967296 + c') (by omega) (fun l => by
        by_cases z : l = j + i
        · rw [z, dg_us]; exact d6
        · rw [dg_un z]; exact h1 l) (fun l hl => by rw [dg_un (by omega)]; exact h2 l (by omega)) hc2 (by
        rw [dw_s (e0 := e0)]
        exact hst)
    refine ⟨m + 1, ?_⟩
    rw [lp_DV_takeAway_33, nI_add, Nat.add_comm i j]
    have hvS : vp_in (nI i) (ah_N (wd_S h R qR nr ngr e) qS) := by
      rw [show ah_N (wd_S h R qR nr ngr e) qS = 258 from Sw.1.2.2.2]
      exact vp_in_nI (by omega) (by decide)
    have hvR : vp_in (nI (j + i)) (ah_N (wd_S h R qR nr ngr e) qR) := by
      rw [show ah_N (wd_S h R qR nr ngr e) qR = 258 from Rq.2.2.2]
      exact vp_in_nI (by omega) (by decide)
    refine ⟨fun hc => absurd hc (nI_ge (by omega) (by omega)), fun _ => ⟨Sw.1.2.2.1, hvS, fun v30 e30 => ⟨Rq.2.2.1, hvR, fun v33 e33 v34 e34 => ⟨hvR, fun h36 e36 v40 e40 v41 e41 => ?_⟩⟩⟩⟩
    have ev : v30 = lN (g * D i + c) := by
      rw [e30, nI_clamp (by omega), show ah_bL (wd_S h R qR nr ngr e) qS = ah_bL h qS from ws_ba hq, Sw.2.2.2]
      show lN g * lN (D i) + lN c = _
      rw [lN_mul, lN_add]
    generalize hs : g * D i + c = s at ev p1 p2 p3 hdm hmo d1 d2 d3 hm hst hc2
    have ev2 : v33 = lN v := by
      rw [e33, ev, ms_k p1, nI_clamp (by omega), H.2.2.2, ← d1]
      show lN (e (j + i)) - _ = _
      rw [h2 (j + i) (Or.inr (Nat.le_refl _))]
    rw [ev2, d2] at e34
    rw [e34, nI_clamp (by omega), wh_up H, wd_wd] at e36
    rw [e36, e40, e41, ev, ev2, d3, sh_k p1, lN_add, nI_1]
    exact hm
/-- takeAway(j, times) -/
theorem s_takeAway {e0 : Nat → Nat} (V : dv_S h dv Q R S) (Rw : wh_S h R qR nr ngr e0) (he0 : ∀ i, e0 i < 4294967296) {n : Nat} (Sw : wh_S h S qS n ngs D) (hD : ∀ i, D i < 4294967296) (hq : qS ≠ qR) {j g : Nat} (hj : j + n ≤ 257) (hg : g < 4294967296) {K : Int32 → ah_H → Prop}
    (hK : ∀ (e : Nat → Nat) (c : Bool), (∀ i, e i < 4294967296) → (∀ l, (l < j ∨ j + n + 1 ≤ l) → e l = e0 l) → dg_v 4294967296 (fun k => e0 (j + k)) (n + 1) + (if c then 1 else 0) * 4294967296 ^ (n + 1) = dg_v 4294967296 (fun k => e (j + k)) (n + 1) + g * dg_v 4294967296 D n → K (bi_n c) (wd_S h R qR nr ngr e)) : w_DV_takeAway dv (nI j) (lN g) h K := by
  have Rq := Rw.1
  unfold w_DV_takeAway
  refine ⟨V.1, R, V.2.2.1, Rq.1, qR, Rq.2.1, S, V.2.2.2, Sw.1.1, qS, Sw.1.2.1, S, V.2.2.2, Sw.1.1, fun v18 e18 => ?_⟩
  rw [e18, Sw.2.1, lN0]
  have key := s_ta_a (h := h) (nr := nr) (ngr := ngr) (K := K) Rq Sw hD hq (j := j) (n := n) (e0 := e0) hj hg he0 (xt := fun (x42 : Int32) (x43 : Nat) (x44 : Int32) (x45 : Int64) h46 => ah_T h46 x43 = 110 ∧ vp_in (x42 + x44) (ah_N h46 x43) ∧ ∀ v49 : Int64, v49 = (ah_bL h46 x43 (x42 + x44).toNatClampNeg) - x45 → ∀ v50 : Int64, v50 = v49 &&& (4294967295 : Int64) → vp_in (x42 + x44) (ah_N h46 x43) ∧ ∀ h52 : ah_H, h52 = ah_cL h46 x43 (vp_updL (ah_bL h46 x43) (x42 + x44).toNatClampNeg v50) → ((0 : Int64) ≤ v49 → (bk_DV_takeAway_137 K (0 : Int32) h52)) ∧ (¬ (0 : Int64) ≤ v49 → (bk_DV_takeAway_137 K (1 : Int32) h52))) (fun e c h1 h2 h3 h4 => by
    have H : wh_S (wd_S h R qR nr ngr e) R qR nr ngr e := wh_wd Rq
    have hvR : vp_in (nI (j + n)) (ah_N (wd_S h R qR nr ngr e) qR) := by
      rw [show ah_N (wd_S h R qR nr ngr e) qR = 258 from Rq.2.2.2]
      exact vp_in_nI (by omega) (by decide)
    show _ ∧ _
    rw [nI_add]
    refine ⟨Rq.2.2.1, hvR, fun v49 e49 v50 e50 => ⟨hvR, fun h52 e52 => ?_⟩⟩
    obtain ⟨v, c', d1, d2, d3, d4, d5, d6, d7, d8⟩ := df_2 (he0 (j + n)) h3
    have ev : v49 = lN v := by
      rw [e49, nI_clamp (by omega), H.2.2.2, ← d1]
      show lN (e (j + n)) - _ = _
      rw [h2 (j + n) (Or.inr (Nat.le_refl _))]
    rw [ev, d2] at e50
    rw [e50, nI_clamp (by omega), wh_up H, wd_wd] at e52
    have fin : ∀ b : Bool, c' = (if b then 1 else 0) → K (bi_n b) h52 := by
      intro b hb
      rw [e52]
      refine hK _ b (fun l => ?_) (fun l hl => ?_) ?_
      · by_cases z : l = j + n
        · rw [z, dg_us]; exact d6
        · rw [dg_un z]; exact h1 l
      · rw [dg_un (by omega)]; exact h2 l (by omega)
      · rw [dw_s (e0 := e0), ← hb]
        have hst := ta_step (B := 4294967296) (x := e0 (j + n)) (r := e0 (j + n) + c' * 4294967296 - c) (y := c) (c' := c') (Di := 0) (k := 0) h4 (by omega) (by omega)
        rw [← p_s, Nat.zero_mul, Nat.add_zero, Nat.zero_add] at hst
        exact hst
    rw [ev]
    refine ⟨fun hl => ⟨Or.inl rfl, fin false ?_⟩, fun hl => ⟨Or.inr rfl, fin true ?_⟩⟩
    · have : ¬ c' = 1 := fun z => Int64.not_lt.mpr hl (d7.mpr z)
      simp; omega
    · exact d7.mp (Int64.not_le.mp hl))
    n 0 e0 0 (by omega) he0 (fun _ _ => rfl) (by decide) (by simp [dg_v])
  rw [← wh_eq Rw] at key
  exact key
theorem s_pb_a (V : dv_S h dv Q R S) (Rq : wq_S h R qR) (Sw : wh_S h S qS ns ngs D) (hD : ∀ i, D i < 4294967296) (hq : qS ≠ qR) {j n : Nat} {e0 : Nat → Nat} (hj : j + n ≤ 257) (he0 : ∀ i, e0 i < 4294967296) {xt : Int32 → Nat → Int32 → Int64 → ah_H → Prop} {K : ah_H → Prop}
    (hx : ∀ (e : Nat → Nat) (c : Nat), (∀ i, e i < 4294967296) → (∀ l, (l < j ∨ j + n ≤ l) → e l = e0 l) → c ≤ 1 → dg_v 4294967296 (fun k => e (j + k)) n + c * 4294967296 ^ n = dg_v 4294967296 (fun k => e0 (j + k)) n + dg_v 4294967296 D n → xt (nI j) qR (nI n) (lN c) (wd_S h R qR nr ngr e)) :
    ∀ (k i : Nat) (e : Nat → Nat) (c : Nat), n = i + k → (∀ i, e i < 4294967296) → (∀ l, (l < j ∨ j + i ≤ l) → e l = e0 l) → c ≤ 1 → dg_v 4294967296 (fun k => e (j + k)) i + c * 4294967296 ^ i = dg_v 4294967296 (fun k => e0 (j + k)) i + dg_v 4294967296 D i → ∃ m, lp_DV_putBack_22 xt K m dv (nI j) qR (nI n) (lN c) (nI i) (wd_S h R qR nr ngr e) := by
  intro k
  induction k with
  | zero =>
    intro i e c hi h1 h2 h3 h4
    have e0' : i = n := by omega
    subst e0'
    refine ⟨0 + 1, ?_⟩
    rw [lp_DV_putBack_22]
    exact ⟨fun _ => hx e c h1 h2 h3 h4, fun hc => absurd (nI_le (Nat.le_refl i) (by omega)) hc⟩
  | succ k ih =>
    intro i e c hi h1 h2 h3 h4
    have H : wh_S (wd_S h R qR nr ngr e) R qR nr ngr e := wh_wd Rq
    have x1 := he0 (j + i)
    have x2 := hD i
    have hst := ad_step (B := 4294967296) (a := fun k => e0 (j + k)) (b := D) (e := fun k => e (j + k)) (s := e0 (j + i) + D i + c) rfl h4
    obtain ⟨m, hm⟩ := ih (i + 1) (dg_u e (j + i) ((e0 (j + i) + D i + c) % 4294967296)) ((e0 (j + i) + D i + c) / 4294967296) (by omega) (fun l => by
        by_cases z : l = j + i
        · rw [z, dg_us]; exact Nat.mod_lt _ (by decide)
        · rw [dg_un z]; exact h1 l) (fun l hl => by rw [dg_un (by omega)]; exact h2 l (by omega)) (by omega) (by
        rw [dw_u]
        exact hst)
    refine ⟨m + 1, ?_⟩
    rw [lp_DV_putBack_22, nI_add, Nat.add_comm i j]
    have hvS : vp_in (nI i) (ah_N (wd_S h R qR nr ngr e) qS) := by
      rw [show ah_N (wd_S h R qR nr ngr e) qS = 258 from Sw.1.2.2.2]
      exact vp_in_nI (by omega) (by decide)
    have hvR : vp_in (nI (j + i)) (ah_N (wd_S h R qR nr ngr e) qR) := by
      rw [show ah_N (wd_S h R qR nr ngr e) qR = 258 from Rq.2.2.2]
      exact vp_in_nI (by omega) (by decide)
    refine ⟨fun hc => absurd hc (nI_ge (by omega) (by omega)), fun _ => ⟨Rq.2.2.1, hvR, V.1, S, V.2.2.2, Sw.1.1, qS, Sw.1.2.1, Sw.1.2.2.1, hvS, fun v31 e31 v32 e32 => ⟨hvR, fun h34 e34 v40 e40 v41 e41 => ?_⟩⟩⟩
    have ev : v31 = lN (e0 (j + i) + D i + c) := by
      rw [e31, nI_clamp (by omega), nI_clamp (by omega), show ah_bL (wd_S h R qR nr ngr e) qS = ah_bL h qS from ws_ba hq, Sw.2.2.2, H.2.2.2]
      show lN (e (j + i)) + lN (D i) + lN c = _
      rw [lN_add, lN_add, h2 (j + i) (Or.inr (Nat.le_refl _))]
    generalize hs : e0 (j + i) + D i + c = s at ev hm
    rw [ev, ms_k (by omega)] at e32
    rw [e32, nI_clamp (by omega), wh_up H, wd_wd] at e34
    rw [e34, e40, e41, ev, sh_k (by omega), nI_1]
    exact hm
/-- putBack(j) -/
theorem s_putBack {e0 : Nat → Nat} (V : dv_S h dv Q R S) (Rw : wh_S h R qR nr ngr e0) (he0 : ∀ i, e0 i < 4294967296) {n : Nat} (Sw : wh_S h S qS n ngs D) (hD : ∀ i, D i < 4294967296) (hq : qS ≠ qR) {j : Nat} (hj : j + n ≤ 257) {K : ah_H → Prop}
    (hK : ∀ (e : Nat → Nat) (c : Nat), (∀ i, e i < 4294967296) → (∀ l, (l < j ∨ j + n + 1 ≤ l) → e l = e0 l) → dg_v 4294967296 (fun k => e (j + k)) (n + 1) + c * 4294967296 ^ (n + 1) = dg_v 4294967296 (fun k => e0 (j + k)) (n + 1) + dg_v 4294967296 D n → K (wd_S h R qR nr ngr e)) : w_DV_putBack dv (nI j) h K := by
  have Rq := Rw.1
  unfold w_DV_putBack
  refine ⟨V.1, R, V.2.2.1, Rq.1, qR, Rq.2.1, S, V.2.2.2, Sw.1.1, fun v12 e12 => ?_⟩
  rw [e12, Sw.2.1, lN0]
  have key := s_pb_a (h := h) (nr := nr) (ngr := ngr) (K := K) V Rq Sw hD hq (j := j) (n := n) (e0 := e0) hj he0 (xt := fun (x42 : Int32) (x43 : Nat) (x44 : Int32) (x45 : Int64) h46 => ah_T h46 x43 = 110 ∧ vp_in (x42 + x44) (ah_N h46 x43) ∧ ∀ v49 : Int64, v49 = ((ah_bL h46 x43 (x42 + x44).toNatClampNeg) + x45) &&& (4294967295 : Int64) → vp_in (x42 + x44) (ah_N h46 x43) ∧ ∀ h51 : ah_H, h51 = ah_cL h46 x43 (vp_updL (ah_bL h46 x43) (x42 + x44).toNatClampNeg v49) → K h51) (fun e c h1 h2 h3 h4 => by
    have H : wh_S (wd_S h R qR nr ngr e) R qR nr ngr e := wh_wd Rq
    have hvR : vp_in (nI (j + n)) (ah_N (wd_S h R qR nr ngr e) qR) := by
      rw [show ah_N (wd_S h R qR nr ngr e) qR = 258 from Rq.2.2.2]
      exact vp_in_nI (by omega) (by decide)
    have x1 := he0 (j + n)
    show _ ∧ _
    rw [nI_add]
    refine ⟨Rq.2.2.1, hvR, fun v49 e49 => ⟨hvR, fun h51 e51 => ?_⟩⟩
    have ev : v49 = lN ((e0 (j + n) + 0 + c) % 4294967296) := by
      rw [e49, nI_clamp (by omega), H.2.2.2]
      show (lN (e (j + n)) + lN c) &&& _ = _
      rw [h2 (j + n) (Or.inr (Nat.le_refl _)), lN_add, ms_k (by omega), Nat.add_zero]
    rw [ev, nI_clamp (by omega), wh_up H, wd_wd] at e51
    rw [e51]
    refine hK _ ((e0 (j + n) + 0 + c) / 4294967296) (fun l => ?_) (fun l hl => ?_) ?_
    · by_cases z : l = j + n
      · rw [z, dg_us]; exact Nat.mod_lt _ (by decide)
      · rw [dg_un z]; exact h1 l
    · rw [dg_un (by omega)]; exact h2 l (by omega)
    · have hst := ad_step (B := 4294967296) (a := fun k => e0 (j + k)) (b := fun k => if k < n then D k else 0) (e := fun k => e (j + k)) (i := n) (s := e0 (j + n) + 0 + c) (c := c) (by simp) (by
        rw [h4]
        congr 1
        exact dg_cg (fun k hk => by simp [hk]))
      have e1 : dg_v 4294967296 (fun k => if k < n then D k else 0) (n + 1) = dg_v 4294967296 D n := by
        show dg_v 4294967296 (fun k => if k < n then D k else 0) n + (if n < n then D n else 0) * _ = _
        rw [if_neg (by omega), Nat.zero_mul, Nat.add_zero]
        exact dg_cg (fun k hk => by simp [hk])
      rw [e1] at hst
      rw [dw_u]
      exact hst)
    n 0 e0 0 (by omega) he0 (fun _ _ => rfl) (by decide) (by simp [dg_v])
  rw [← wh_eq Rw] at key
  exact key
end DV3
