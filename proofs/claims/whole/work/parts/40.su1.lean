section SU1
variable {h : ah_H}
/-- another Whole keeps what it holds -/
theorem wh_ot {t q nt : Nat} {ngt : Bool} {e : Nat → Nat} {a qa na : Nat} {nga : Bool} {da : Nat → Nat} (A : wh_S h a qa na nga da) (h1 : a ≠ t) (h2 : qa ≠ q) : wh_S (wd_S h t q nt ngt e) a qa na nga da :=
  ⟨A.1, (ws_Ia h1).trans A.2.1, (ws_Ia h1).trans A.2.2.1, (ws_ba h2).trans A.2.2.2⟩
/-- a is the Whole t itself, or quite another -/
def al_S (a qa : Nat) (da : Nat → Nat) (t q : Nat) (dt : Nat → Nat) : Prop := (a = t ∧ qa = q ∧ da = dt) ∨ (a ≠ t ∧ qa ≠ q)
theorem al_rd {t q nt : Nat} {ngt : Bool} {e dt : Nat → Nat} {a qa na : Nat} {nga : Bool} {da : Nat → Nat} (A : wh_S h a qa na nga da) (al : al_S a qa da t q dt) {i : Nat} (he : e i = dt i) : ah_bL (wd_S h t q nt ngt e) qa i = lN (da i) := by
  rcases al with ⟨_, h2, h3⟩ | ⟨_, h2⟩
  · rw [h2, show ah_bL (wd_S h t q nt ngt e) q = lw_n e from ws_b, h3]
    show lN (e i) = _
    rw [he]
  · rw [show ah_bL (wd_S h t q nt ngt e) qa = ah_bL h qa from ws_ba h2, A.2.2.2]; rfl
theorem dg_s1 {B : Nat} {e : Nat → Nat} {i x : Nat} : dg_v B (dg_u e i x) (i + 1) = dg_v B e i + x * B ^ i := by
  show dg_v B (dg_u e i x) i + dg_u e i x i * B ^ i = _
  rw [dg_us_v (Nat.le_refl i), dg_us]
theorem ad_step {B c i s : Nat} {a b e : Nat → Nat} (hs : s = a i + b i + c) (inv : dg_v B e i + c * B ^ i = dg_v B a i + dg_v B b i) : dg_v B (dg_u e i (s % B)) (i + 1) + s / B * B ^ (i + 1) = dg_v B a (i + 1) + dg_v B b (i + 1) := by
  have e2 : dg_v B a (i + 1) = dg_v B a i + a i * B ^ i := rfl
  have e2' : dg_v B b (i + 1) = dg_v B b i + b i * B ^ i := rfl
  have e3 : s / B * B ^ (i + 1) = (B * (s / B)) * B ^ i := by rw [Nat.pow_succ, Nat.mul_comm (B ^ i) B, ← Nat.mul_assoc, Nat.mul_comm (s / B) B]
  have e4 : s % B * B ^ i + (B * (s / B)) * B ^ i = s * B ^ i := by rw [← Nat.add_mul, Nat.mod_add_div]
  have e5 : s * B ^ i = a i * B ^ i + b i * B ^ i + c * B ^ i := by rw [hs, Nat.add_mul, Nat.add_mul]
  rw [dg_s1, e2, e2', e3]
  omega
variable {t q nt : Nat} {ngt : Bool} {dt : Nat → Nat} {a qa na : Nat} {nga : Bool} {da : Nat → Nat} {b qb nb : Nat} {ngb : Bool} {db : Nat → Nat}
theorem s_sum_a (Tq : wq_S h t q) (A : wh_S h a qa na nga da) (Bw : wh_S h b qb nb ngb db) (hda : ∀ i, da i < 4294967296) (hdb : ∀ i, db i < 4294967296) (alA : al_S a qa da t q dt) (alB : al_S b qb db t q dt) {n : Nat} (hn : n ≤ 258) {xt : Nat → Int32 → ah_H → Prop} {K : ah_H → Prop}
    (hx : ∀ (e : Nat → Nat) (c : Nat), (∀ j, j < n → e j < 4294967296) → (∀ j, n ≤ j → e j = dt j) → dg_v 4294967296 e n + c * 4294967296 ^ n = dg_v 4294967296 da n + dg_v 4294967296 db n → xt t (nI n) (wd_S h t q nt ngt e)) :
    ∀ (k i : Nat) (e : Nat → Nat) (c : Nat), n = i + k → (∀ j, j < i → e j < 4294967296) → (∀ j, i ≤ j → e j = dt j) → c ≤ 1 → dg_v 4294967296 e i + c * 4294967296 ^ i = dg_v 4294967296 da i + dg_v 4294967296 db i → ∃ m, lp_SU_sumOfAbsolutes_26 xt K m t a b (nI n) (lN c) (nI i) (wd_S h t q nt ngt e) := by
  intro k
  induction k with
  | zero =>
    intro i e c hi h1 h2 h3 h4
    have e0 : i = n := by omega
    subst e0
    refine ⟨0 + 1, ?_⟩
    rw [lp_SU_sumOfAbsolutes_26]
    exact ⟨fun _ => hx e c h1 h2 h4, fun hc => absurd (nI_le (Nat.le_refl i) (by omega)) hc⟩
  | succ k ih =>
    intro i e c hi h1 h2 h3 h4
    have x1 := hda i
    have x2 := hdb i
    have hvi : ∀ {q' : Nat}, ah_N h q' = 258 → vp_in (nI i) (ah_N (wd_S h t q nt ngt e) q') := fun hq => by
      rw [show ah_N (wd_S h t q nt ngt e) _ = 258 from hq]
      exact vp_in_nI (by omega) (by decide)
    have H : wh_S (wd_S h t q nt ngt e) t q nt ngt e := wh_wd Tq
    obtain ⟨m, hm⟩ := ih (i + 1) (dg_u e i ((da i + db i + c) % 4294967296)) ((da i + db i + c) / 4294967296) (by omega) (fun j hj => by
        by_cases z : j = i
        · rw [z, dg_us]; exact Nat.mod_lt _ (by decide)
        · rw [dg_un z]; exact h1 j (by omega)) (fun j hj => by rw [dg_un (by omega)]; exact h2 j (by omega)) (by omega) (ad_step rfl h4)
    refine ⟨m + 1, ?_⟩
    rw [lp_SU_sumOfAbsolutes_26]
    refine ⟨fun hc => absurd hc (nI_ge (by omega) (by omega)), fun _ => ⟨A.1.1, qa, A.1.2.1, A.1.2.2.1, hvi A.1.2.2.2, Bw.1.1, qb, Bw.1.2.1, Bw.1.2.2.1, hvi Bw.1.2.2.2, fun v25 e25 => ⟨Tq.1, q, Tq.2.1, fun v29 e29 => ⟨Tq.2.2.1, hvi Tq.2.2.2, fun h32 e32 v40 e40 v41 e41 => ?_⟩⟩⟩⟩
    have ev : v25 = lN (da i + db i + c) := by
      rw [e25, nI_clamp (by omega), al_rd A alA (h2 i (Nat.le_refl i)), al_rd Bw alB (h2 i (Nat.le_refl i)), lN_add, lN_add]
    generalize hs : da i + db i + c = s at ev hm
    rw [ev, ms_k (by omega)] at e29
    rw [e29, nI_clamp (by omega), wh_up H, wd_wd] at e32
    rw [e32, e40, e41, ev, sh_k (by omega), nI_1]
    exact hm
theorem mx_n {x y : Nat} (hx : x ≤ 257) (hy : y ≤ 257) : (if (258 : Int32) < ((if nI x < nI y then nI y else nI x) + (1 : Int32)) then (258 : Int32) else ((if nI x < nI y then nI y else nI x) + (1 : Int32))) = nI ((if x < y then y else x) + 1) := by
  have e : (if nI x < nI y then nI y else nI x) = nI (if x < y then y else x) := by
    by_cases hlt : x < y
    · rw [if_pos hlt, if_pos ((nI_ltI (by omega) (by omega)).mpr hlt)]
    · rw [if_neg hlt, if_neg (fun z => hlt ((nI_ltI (by omega) (by omega)).mp z))]
  rw [e, nI_1]
  rw [if_neg]
  intro h1
  have := (nI_ltI (a := 258) (b := (if x < y then y else x) + 1) (by decide) (by split <;> omega)).mp h1
  split at this <;> omega
/-- sumOfAbsolutes(to, a, b) -/
theorem s_sum (T : wh_S h t q nt ngt dt) (hnt : nt ≤ 258) (hdt : ∀ i, nt ≤ i → dt i = 0) (A : wh_S h a qa na nga da) (CA : cn_D da na) (Bw : wh_S h b qb nb ngb db) (CB : cn_D db nb) (hna : na ≤ 257) (hnb : nb ≤ 257) (alA : al_S a qa da t q dt) (alB : al_S b qb db t q dt) {K : ah_H → Prop}
    (hK : ∀ (n' : Nat) (d' : Nat → Nat), cn_D d' n' → dg_v 4294967296 d' n' = dg_v 4294967296 da na + dg_v 4294967296 db nb → K (wd_S h t q n' ngt d')) : w_SU_sumOfAbsolutes t a b h K := by
  have Tq := T.1
  unfold w_SU_sumOfAbsolutes
  refine ⟨A.1.1, Bw.1.1, fun v6 e6 => ?_⟩
  rw [A.2.1, Bw.2.1, mx_n hna hnb] at e6
  rw [e6, lN0, show (0 : Int32) = nI 0 from rfl]
  generalize hmx : (if na < nb then nb else na) = mx
  have hm1 : na ≤ mx ∧ nb ≤ mx ∧ mx ≤ 257 := by rw [← hmx]; split <;> omega
  have va : dg_v 4294967296 da (mx + 1) = dg_v 4294967296 da na := dg_z (by omega) (fun i hi _ => CA.2.1 i hi)
  have vb : dg_v 4294967296 db (mx + 1) = dg_v 4294967296 db nb := dg_z (by omega) (fun i hi _ => CB.2.1 i hi)
  have la : dg_v 4294967296 da mx < 4294967296 ^ mx := dg_lt (fun i _ => CA.1 i)
  have lb : dg_v 4294967296 db mx < 4294967296 ^ mx := dg_lt (fun i _ => CB.1 i)
  have va' : dg_v 4294967296 da mx = dg_v 4294967296 da na := dg_z (by omega) (fun i hi _ => CA.2.1 i hi)
  have vb' : dg_v 4294967296 db mx = dg_v 4294967296 db nb := dg_z (by omega) (fun i hi _ => CB.2.1 i hi)
  have hp : 4294967296 ^ (mx + 1) = 4294967296 * 4294967296 ^ mx := by rw [Nat.pow_succ, Nat.mul_comm]
  have key := s_sum_a (h := h) (nt := nt) (ngt := ngt) (K := K) Tq A Bw CA.1 CB.1 alA alB (n := mx + 1) (by omega) (xt := fun (x42 : Nat) (x43 : Int32) h44 => ah_T h44 x42 = 3 ∧ w_WH_settle x42 x43 h44 (fun h46 => ah_m h44 h46 → K h46)) (fun e c h1 h2 h4 => by
    have He : wh_S (wd_S h t q nt ngt e) t q nt ngt e := wh_wd Tq
    have hlt := dg_lt (n := mx + 1) h1
    rw [va, vb] at h4
    have hc : c = 0 := by
      rcases Nat.eq_zero_or_pos c with z | z
      · exact z
      · exfalso
        have h7 : 1 * 4294967296 ^ (mx + 1) ≤ c * 4294967296 ^ (mx + 1) := Nat.mul_le_mul_right _ z
        rw [va'] at la
        rw [vb'] at lb
        generalize hQ : 4294967296 ^ (mx + 1) = Q at h7 h4 hp hlt
        generalize 4294967296 ^ mx = P at hp la lb
        generalize c * Q = cQ at h7 h4
        omega
    rw [hc, Nat.zero_mul, Nat.add_zero] at h4
    have he0 : ∀ i, e i < 18446744073709551616 ∨ True := fun _ => Or.inr trivial
    have hez : ∀ i, mx + 1 ≤ i → zr_n e (mx + 1) nt i = 0 := fun i hi => by
      unfold zr_n
      by_cases hn : i < nt
      · rw [if_pos ⟨hi, hn⟩]
      · rw [if_neg (by omega), h2 i hi, hdt i (by omega)]
    have hel : ∀ i, i < mx + 1 → zr_n e (mx + 1) nt i = e i := fun i hi => by
      unfold zr_n; rw [if_neg (by omega)]
    have heb : ∀ i, zr_n e (mx + 1) nt i < 4294967296 := fun i => by
      by_cases hi : i < mx + 1
      · rw [hel i hi]; exact h1 i hi
      · rw [hez i (by omega)]; decide
    refine ⟨Tq.1, s_settle' He hnt (by omega) heb (fun _ => ?_)⟩
    rw [wd_wd]
    refine hK (tr_n (zr_n e (mx + 1) nt) (mx + 1)) (zr_n e (mx + 1) nt) (cn_tr heb hez (by omega)) ?_
    rw [tr_v, dg_cg hel]
    exact h4)
    (mx + 1) 0 dt 0 (by omega) (fun j hj => absurd hj (by omega)) (fun _ _ => rfl) (by decide) (by simp [dg_v])
  rw [← wh_eq T] at key
  exact key
end SU1
