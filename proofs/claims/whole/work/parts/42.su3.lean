section SU3
variable {h : ah_H} {t q nt : Nat} {ngt : Bool} {b qb nb : Nat} {ngb : Bool} {db : Nat → Nat}
theorem ml_lt {f x y c : Nat} (hf : f < 4294967296) (hx : x < 4294967296) (hy : y < 4294967296) (hc : c < 4294967296) : f * x + y + c < 18446744073709551616 := by
  have h1 : f * x ≤ 4294967295 * 4294967295 := Nat.mul_le_mul (by omega) (by omega)
  have h2 : (4294967295 : Nat) * 4294967295 = 18446744065119617025 := by decide
  omega
theorem mr_step {B f c s i j : Nat} {e d e0 : Nat → Nat} (hs : s = f * d j + e0 (i + j) + c) (inv : dg_v B e (i + j) + c * B ^ (i + j) = dg_v B e0 (i + j) + f * dg_v B d j * B ^ i) : dg_v B (dg_u e (i + j) (s % B)) (i + (j + 1)) + s / B * B ^ (i + (j + 1)) = dg_v B e0 (i + (j + 1)) + f * dg_v B d (j + 1) * B ^ i := by
  have e2 : dg_v B e0 (i + (j + 1)) = dg_v B e0 (i + j) + e0 (i + j) * B ^ (i + j) := rfl
  have e2' : dg_v B d (j + 1) = dg_v B d j + d j * B ^ j := rfl
  have e3 : s / B * B ^ (i + (j + 1)) = (B * (s / B)) * B ^ (i + j) := by rw [← Nat.add_assoc, Nat.pow_succ, Nat.mul_comm (B ^ (i + j)) B, ← Nat.mul_assoc, Nat.mul_comm (s / B) B]
  have e4 : s % B * B ^ (i + j) + (B * (s / B)) * B ^ (i + j) = s * B ^ (i + j) := by rw [← Nat.add_mul, Nat.mod_add_div]
  have e5 : s * B ^ (i + j) = f * d j * B ^ (i + j) + e0 (i + j) * B ^ (i + j) + c * B ^ (i + j) := by rw [hs, Nat.add_mul, Nat.add_mul]
  have e6 : f * (d j * B ^ j) * B ^ i = f * d j * B ^ (i + j) := by rw [Nat.pow_add, Nat.mul_comm (B ^ i), Nat.mul_assoc, Nat.mul_assoc, Nat.mul_assoc]
  rw [← Nat.add_assoc i j 1, dg_s1, Nat.add_assoc i j 1, e2, e2', e3, Nat.mul_add, Nat.add_mul, e6]
  omega
theorem s_addRow_a (Tq : wq_S h t q) (Bw : wh_S h b qb nb ngb db) (hdb : ∀ i, db i < 4294967296) (hq : qb ≠ q) {i f : Nat} {e0 : Nat → Nat} (hi : i + nb ≤ 257) (hf : f < 4294967296) (he0 : ∀ j, j < i + nb → e0 j < 4294967296) {xt : Nat → Int32 → Int32 → Int64 → ah_H → Prop} {K : ah_H → Prop}
    (hx : ∀ (e : Nat → Nat) (c : Nat), (∀ j, j < i + nb → e j < 4294967296) → (∀ j, i + nb ≤ j → e j = e0 j) → c < 4294967296 → dg_v 4294967296 e (i + nb) + c * 4294967296 ^ (i + nb) = dg_v 4294967296 e0 (i + nb) + f * dg_v 4294967296 db nb * 4294967296 ^ i → xt q (nI i) (nI nb) (lN c) (wd_S h t q nt ngt e)) :
    ∀ (k j : Nat) (e : Nat → Nat) (c : Nat), nb = j + k → (∀ l, l < i + j → e l < 4294967296) → (∀ l, i + j ≤ l → e l = e0 l) → c < 4294967296 → dg_v 4294967296 e (i + j) + c * 4294967296 ^ (i + j) = dg_v 4294967296 e0 (i + j) + f * dg_v 4294967296 db j * 4294967296 ^ i → ∃ m, lp_SU_addRow_20 xt K m q (nI i) (lN f) qb (nI nb) (lN c) (nI j) (wd_S h t q nt ngt e) := by
  intro k
  induction k with
  | zero =>
    intro j e c hj h1 h2 h3 h4
    have e0' : j = nb := by omega
    subst e0'
    refine ⟨0 + 1, ?_⟩
    rw [lp_SU_addRow_20]
    exact ⟨fun _ => hx e c h1 h2 h3 h4, fun hc => absurd (nI_le (Nat.le_refl j) (by omega)) hc⟩
  | succ k ih =>
    intro j e c hj h1 h2 h3 h4
    have H : wh_S (wd_S h t q nt ngt e) t q nt ngt e := wh_wd Tq
    have hvb : vp_in (nI j) (ah_N (wd_S h t q nt ngt e) qb) := by
      rw [show ah_N (wd_S h t q nt ngt e) qb = 258 from Bw.1.2.2.2]
      exact vp_in_nI (by omega) (by decide)
    have hvq : vp_in (nI (i + j)) (ah_N (wd_S h t q nt ngt e) q) := by
      rw [show ah_N (wd_S h t q nt ngt e) q = 258 from Tq.2.2.2]
      exact vp_in_nI (by omega) (by decide)
    have hs64 := ml_lt hf (hdb j) (he0 (i + j) (by omega)) h3
    obtain ⟨m, hm⟩ := ih (j + 1) (dg_u e (i + j) ((f * db j + e0 (i + j) + c) % 4294967296)) ((f * db j + e0 (i + j) + c) / 4294967296) (by omega) (fun l hl => by
        by_cases z : l = i + j
        · rw [z, dg_us]; exact Nat.mod_lt _ (by decide)
        · rw [dg_un z]; exact h1 l (by omega)) (fun l hl => by rw [dg_un (by omega)]; exact h2 l (by omega)) (Nat.div_lt_of_lt_mul (by omega)) (mr_step rfl h4)
    refine ⟨m + 1, ?_⟩
    rw [lp_SU_addRow_20, nI_add]
    refine ⟨fun hc => absurd hc (nI_ge (by omega) (by omega)), fun _ => ⟨Bw.1.2.2.1, hvb, Tq.2.2.1, hvq, fun v22 e22 v23 e23 => ⟨hvq, fun h25 e25 v29 e29 v30 e30 => ?_⟩⟩⟩
    have ev : v22 = lN (f * db j + e0 (i + j) + c) := by
      rw [e22, nI_clamp (by omega), nI_clamp (by omega), show ah_bL (wd_S h t q nt ngt e) qb = ah_bL h qb from ws_ba hq, Bw.2.2.2, H.2.2.2]
      show lN f * lN (db j) + lN (e (i + j)) + lN c = _
      rw [lN_mul, lN_add, lN_add, h2 (i + j) (Nat.le_refl _)]
    generalize hs : f * db j + e0 (i + j) + c = s at ev hm hs64
    rw [ev, ms_k hs64] at e23
    rw [e23, nI_clamp (by omega), wh_up H, wd_wd] at e25
    rw [e25, e29, e30, ev, sh_k hs64, nI_1]
    exact hm
/-- addRow(to, at, factor, b) -/
theorem s_addRow (Tq : wq_S h t q) (Bw : wh_S h b qb nb ngb db) (hdb : ∀ i, db i < 4294967296) (hb : b ≠ t) (hq : qb ≠ q) {i f : Nat} {e0 : Nat → Nat} (hi : i + nb ≤ 257) (hf : f < 4294967296) (he0 : ∀ j, j < i + nb → e0 j < 4294967296) {K : ah_H → Prop}
    (hK : ∀ (e : Nat → Nat), (∀ j, j < i + 1 + nb → e j < 4294967296) → (∀ j, i + 1 + nb ≤ j → e j = e0 j) → dg_v 4294967296 e (i + 1 + nb) = dg_v 4294967296 e0 (i + nb) + f * dg_v 4294967296 db nb * 4294967296 ^ i → K (wd_S h t q nt ngt e)) : w_SU_addRow q (nI i) (lN f) b (wd_S h t q nt ngt e0) K := by
  have hsz : ah_I (wd_S h t q nt ngt e0) 0 b = nI nb := (ws_Ia hb).trans Bw.2.1
  unfold w_SU_addRow
  refine ⟨Bw.1.1, qb, Bw.1.2.1, fun v8 e8 => ?_⟩
  rw [e8, hsz, lN0]
  refine s_addRow_a Tq Bw hdb hq hi hf he0 (fun e c h1 h2 h3 h4 => ?_) nb 0 e0 0 (by omega) (fun l hl => he0 l (by omega)) (fun _ _ => rfl) (by decide) (by simp [dg_v])
  have H : wh_S (wd_S h t q nt ngt e) t q nt ngt e := wh_wd Tq
  refine ⟨Tq.2.2.1, ?_, fun h38 e38 => ?_⟩
  · rw [show ah_N (wd_S h t q nt ngt e) q = 258 from Tq.2.2.2, nI_add]
    exact vp_in_nI (by omega) (by decide)
  · rw [nI_add, nI_clamp (by omega), wh_up H, wd_wd] at e38
    rw [e38]
    refine hK _ (fun j hj => ?_) (fun j hj => ?_) ?_
    · by_cases z : j = i + nb
      · rw [z, dg_us]; exact h3
      · rw [dg_un z]; exact h1 j (by omega)
    · rw [dg_un (by omega)]; exact h2 j (by omega)
    · rw [show i + 1 + nb = i + nb + 1 by omega, dg_s1]; exact h4
theorem s_prod_z (Tq : wq_S h t q) {a c : Nat} {dt : Nat → Nat} (hc : c ≤ 258) {xt : Nat → Nat → Nat → Int32 → ah_H → Prop} {K : Int32 → ah_H → Prop} (hx : xt t a b (nI c) (wd_S h t q nt ngt (zl_n dt c))) :
    ∀ (k i : Nat), c = i + k → ∃ m, lp_SU_product_22 xt K m t a b (nI c) (nI i) (wd_S h t q nt ngt (zl_n dt i)) := by
  intro k
  induction k with
  | zero =>
    intro i hi
    have e0 : i = c := by omega
    subst e0
    refine ⟨0 + 1, ?_⟩
    rw [lp_SU_product_22]
    exact ⟨fun _ => hx, fun hc => absurd (nI_le (Nat.le_refl i) (by omega)) hc⟩
  | succ k ih =>
    intro i hi
    have H : wh_S (wd_S h t q nt ngt (zl_n dt i)) t q nt ngt (zl_n dt i) := wh_wd Tq
    obtain ⟨m, hm⟩ := ih (i + 1) (by omega)
    refine ⟨m + 1, ?_⟩
    rw [lp_SU_product_22]
    refine ⟨fun hc => absurd hc (nI_ge (by omega) (by omega)), fun _ => ⟨Tq.1, q, Tq.2.1, Tq.2.2.1, ?_, fun h20 e20 v24 e24 => ?_⟩⟩
    · rw [show ah_N (wd_S h t q nt ngt _) q = 258 from Tq.2.2.2]
      exact vp_in_nI (by omega) (by decide)
    · rw [nI_clamp (by omega), lN0, wh_up H, wd_wd, zl_s] at e20
      rw [e20, e24, nI_1]
      exact hm
variable {a qa na : Nat} {nga : Bool} {da : Nat → Nat}
theorem s_prod_a (Tq : wq_S h t q) (A : wh_S h a qa na nga da) (hda : ∀ i, da i < 4294967296) (Bw : wh_S h b qb nb ngb db) (hdb : ∀ i, db i < 4294967296) (ha : a ≠ t ∧ qa ≠ q) (hb : b ≠ t ∧ qb ≠ q) {dz : Nat → Nat} (hc : na + nb ≤ 258) (hna : na ≤ 256) (hnb : nb ≤ 256) {c : Int32} {xt : Nat → Nat → Nat → Int32 → ah_H → Prop} {K : Int32 → ah_H → Prop}
    (hx : ∀ e : Nat → Nat, (∀ j, j < na + nb → e j < 4294967296) → (∀ j, na + nb ≤ j → e j = dz j) → dg_v 4294967296 e (na + nb) = dg_v 4294967296 da na * dg_v 4294967296 db nb → xt t a b c (wd_S h t q nt ngt e)) :
    ∀ (k i : Nat) (e : Nat → Nat), na = i + k → (∀ j, j < i + nb → e j < 4294967296) → (∀ j, i + nb ≤ j → e j = dz j) → dg_v 4294967296 e (i + nb) = dg_v 4294967296 da i * dg_v 4294967296 db nb → lp_SU_product_45 xt K (k + 1) t a b c (nI i) (wd_S h t q nt ngt e) := by
  intro k
  induction k with
  | zero =>
    intro i e hi h1 h2 h3
    have e0 : i = na := by omega
    subst e0
    rw [lp_SU_product_45, show ah_I (wd_S h t q nt ngt e) 0 a = nI i from (ws_Ia ha.1).trans A.2.1]
    exact ⟨A.1.1, fun _ => hx e h1 h2 h3, fun hc => absurd (nI_le (Nat.le_refl i) (by omega)) hc⟩
  | succ k ih =>
    intro i e hi h1 h2 h3
    rw [lp_SU_product_45, show ah_I (wd_S h t q nt ngt e) 0 a = nI na from (ws_Ia ha.1).trans A.2.1]
    refine ⟨A.1.1, fun hc => absurd hc (nI_ge (by omega) (by omega)), fun _ => ⟨Tq.1, q, Tq.2.1, qa, A.1.2.1, A.1.2.2.1, ?_, ?_⟩⟩
    · rw [show ah_N (wd_S h t q nt ngt _) qa = 258 from A.1.2.2.2]
      exact vp_in_nI (by omega) (by decide)
    · rw [nI_clamp (by omega), show ah_bL (wd_S h t q nt ngt e) qa = ah_bL h qa from ws_ba ha.2, A.2.2.2]
      refine s_addRow Tq Bw hdb hb.1 hb.2 (by omega) (hda i) h1 (fun e' g1 g2 g3 _ v50 e50 => ?_)
      rw [e50, nI_1]
      refine ih (i + 1) e' (by omega) g1 (fun j hj => by rw [g2 j hj]; exact h2 j (by omega)) ?_
      rw [g3, h3]
      show _ = (dg_v 4294967296 da i + da i * 4294967296 ^ i) * _
      rw [Nat.add_mul, Nat.mul_right_comm]
/-- product(to, a, b) -/
theorem s_product {dt : Nat → Nat} (T : wh_S h t q nt ngt dt) (CT : cn_D dt nt) (A : wh_S h a qa na nga da) (CA : cn_D da na) (Bw : wh_S h b qb nb ngb db) (CB : cn_D db nb) (hna : na ≤ 256) (hnb : nb ≤ 256) (alA : a ≠ t ∧ qa ≠ q) (alB : b ≠ t ∧ qb ≠ q) {K : Int32 → ah_H → Prop}
    (hno : 258 < na + nb → K 0 h)
    (hK : ∀ (n' : Nat) (g : Bool) (d' : Nat → Nat), cn_D d' n' → (g = true → n' ≠ 0) → sg_Z g (dg_v 4294967296 d' n') = sg_Z nga (dg_v 4294967296 da na) * sg_Z ngb (dg_v 4294967296 db nb) → K 1 (wd_S h t q n' g d')) : w_SU_product t a b h K := by
  have Tq := T.1
  have hnt := CT.2.2.2
  unfold w_SU_product
  refine ⟨A.1.1, Bw.1.1, fun v6 e6 => ?_⟩
  rw [A.2.1, Bw.2.1, nI_add] at e6
  rw [e6]
  refine ⟨fun hle => ?_, fun hgt => hno (Nat.lt_of_not_le (fun z => hgt ((nI_leI (b := 258) (by omega) (by decide)).mpr z)))⟩
  have hc : na + nb ≤ 258 := (nI_leI (b := 258) (by omega) (by decide)).mp hle
  have z0 : zl_n dt 0 = dt := funext fun j => by unfold zl_n; rw [if_neg (by omega)]
  have key := s_prod_z (h := h) (nt := nt) (ngt := ngt) (b := b) (a := a) (dt := dt) (K := K) Tq hc (xt := fun (x25 : Nat) (x26 : Nat) (x27 : Nat) (x28 : Int32) h29 => ∃ k70, lp_SU_product_45 (fun (x51 : Nat) (x52 : Nat) (x53 : Nat) (x54 : Int32) h55 => ah_T h55 x51 = 3 ∧ w_WH_settle x51 x54 h55 (fun h57 => ah_m h55 h57 → ah_T h57 x52 = 3 ∧ ah_T h57 x53 = 3 ∧ ((ah_I h57 1 x52) = (ah_I h57 1 x53) → (bk_SU_product_99 K (0 : Int32) x51 h57)) ∧ (¬ (ah_I h57 1 x52) = (ah_I h57 1 x53) → (bk_SU_product_99 K (1 : Int32) x51 h57)))) K k70 x25 x26 x27 x28 (0 : Int32) h29) ⟨na + 1, ?_⟩ (na + nb) 0 (by omega)
  · rw [z0, ← wh_eq T] at key
    exact key
  · refine s_prod_a Tq A CA.1 Bw CB.1 alA alB (dz := zl_n dt (na + nb)) hc hna hnb (fun e h1 h2 h3 => ⟨Tq.1, ?_⟩) na 0 (zl_n dt (na + nb)) (by omega) (fun j hj => ?_) (fun _ _ => rfl) ?_
    · unfold zl_n; rw [if_pos (by omega)]; decide
    · rw [Nat.zero_add]
      show dg_v 4294967296 _ nb = 0 * _
      rw [Nat.zero_mul]
      exact dg_0 (fun i hi => by unfold zl_n; rw [if_pos (by omega)])
    · refine s_fin (dt := zl_n dt (na + nb)) Tq hnt (fun i hi => ?_) hc h1 h2 (fun n' d' C hv _ => ⟨A.1.1, Bw.1.1, ?_⟩)
      · unfold zl_n; split
        · rfl
        · exact CT.2.1 i hi
      · rw [show ah_I (wd_S h t q n' ngt d') 1 a = bi_n nga from (ws_Ia alA.1).trans A.2.2.1, show ah_I (wd_S h t q n' ngt d') 1 b = bi_n ngb from (ws_Ia alB.1).trans Bw.2.2.1]
        have mk : ∀ g : Bool, g = (nga != ngb) → bk_SU_product_99 K (bi_n g) t (wd_S h t q n' ngt d') := fun g hg => by
          refine ⟨Tq.1, s_markSign (wh_wd Tq) C.2.2.2 g (fun _ => ?_)⟩
          rw [wd_wd]
          refine hK n' _ d' C (fun z => ?_) ?_
          · have := (Bool.and_eq_true_iff.mp z).2
            have := of_decide_eq_true this
            omega
          · rw [sg_b (cn_0 C), hv, h3, hg]
            cases nga <;> cases ngb <;> simp [sg_Z, Int.neg_mul, Int.mul_neg]
        exact ⟨fun he => mk false (by rw [bi_eq.mp he]; cases ngb <;> rfl), fun hn => mk true (by have := bi_ne.mp hn; cases nga <;> cases ngb <;> simp_all)⟩
end SU3
