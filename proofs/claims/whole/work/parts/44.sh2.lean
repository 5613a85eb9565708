section SH2
variable {h : ah_H} {t q nt : Nat} {ngt : Bool} {dt : Nat → Nat} {a qa na : Nat} {nga : Bool} {da : Nat → Nat}
/-- limbs, zeros from n on -/
def cw_D (d : Nat → Nat) (n : Nat) : Prop := (∀ i, d i < 4294967296) ∧ (∀ i, n ≤ i → d i = 0) ∧ n ≤ 258
theorem cn_cw {d : Nat → Nat} {n : Nat} (C : cn_D d n) : cw_D d n := ⟨C.1, C.2.1, C.2.2.2⟩
theorem cw_258 {d : Nat → Nat} {n : Nat} (C : cw_D d n) : ∀ i, 258 ≤ i → d i = 0 := fun i hi => C.2.1 i (Nat.le_trans C.2.2 hi)
theorem cw_lt {d : Nat → Nat} {n : Nat} (C : cw_D d n) : dg_v 4294967296 d n < 4294967296 ^ n := dg_lt (fun i _ => C.1 i)
/-- at(), of the Whole that is being written, or of another -/
theorem s_atl {e : Nat → Nat} (Tq : wq_S h t q) (A : wh_S h a qa na nga da) (al : al_S a qa da t q dt) (hz : ∀ i, 258 ≤ i → da i = 0) {i : Nat} (hi : i < 2 ^ 31) (he : ∀ j, i ≤ j → e j = dt j) {K : Int64 → ah_H → Prop} (hK : K (lN (da i)) (wd_S h t q nt ngt e)) : w_WH_at a (nI i) (wd_S h t q nt ngt e) K := by
  unfold w_WH_at
  refine ⟨fun h1 => absurd h1 (nI_pos hi), fun _ => ⟨fun h1 => ?_, fun h1 => ⟨A.1.1, qa, A.1.2.1, A.1.2.2.1, ?_, ?_⟩⟩⟩
  · have : 258 ≤ i := (nI_leI (by decide) hi).mp h1
    rw [hz i this] at hK
    exact hK
  · have : i < 258 := Nat.lt_of_not_le (fun z => h1 ((nI_leI (by decide) hi).mpr z))
    rw [show ah_N (wd_S h t q nt ngt e) qa = 258 from A.1.2.2.2]
    exact vp_in_nI this (by decide)
  · show K (ah_bL (wd_S h t q nt ngt e) qa (nI i).toNatClampNeg) _
    rw [nI_clamp hi, al_rd A al (he i (Nat.le_refl i))]
    exact hK
theorem sd_k {x y p : Nat} (hx : x < 4294967296) (hy : y < 4294967296) (hp : p < 32) : (((lN x).toUInt64 >>> ((nI p).toInt64.toUInt64 &&& Int64.toUInt64 63)).toInt64 ||| (lN y <<< ((nI (32 - p)).toInt64 &&& 63))) &&& (4294967295 : Int64) = lN (x / 2 ^ p + y % 2 ^ p * 2 ^ (32 - p)) := by
  have h0 := p2_sp (p := p) (by omega)
  have h1 : x / 2 ^ p < 2 ^ (32 - p) := by
    apply Nat.div_lt_of_lt_mul
    rw [Nat.mul_comm, h0]; exact hx
  have h2 : (2 : Nat) ^ (32 - p) ≤ 2 ^ 32 := Nat.pow_le_pow_right (by decide) (by omega)
  rw [show (2 : Nat) ^ 32 = 4294967296 by decide] at h2
  have h3 : y * 2 ^ (32 - p) ≤ 4294967295 * 4294967296 := Nat.mul_le_mul (by omega) h2
  have e3 : (4294967295 : Nat) * 4294967296 = 18446744069414584320 := by decide
  have h4 : x / 2 ^ p + y * 2 ^ (32 - p) < 18446744073709551616 := by omega
  rw [wb_shr (by omega) (by omega), wb_shl y (show 32 - p < 64 by omega), g_or' (k := 32 - p) rfl h1 h4, ms_k h4]
  congr 1
  have h5 : y % 2 ^ p < 2 ^ p := Nat.mod_lt _ (Nat.two_pow_pos _)
  have h6 : (y % 2 ^ p + 1) * 2 ^ (32 - p) ≤ 2 ^ p * 2 ^ (32 - p) := Nat.mul_le_mul_right _ h5
  rw [Nat.mul_comm (2 ^ p), h0, Nat.add_mul, Nat.one_mul] at h6
  have h7 := Nat.div_add_mod y (2 ^ p)
  have h8 : y * 2 ^ (32 - p) = 4294967296 * (y / 2 ^ p) + y % 2 ^ p * 2 ^ (32 - p) := by
    conv => lhs; rw [← h7]
    rw [Nat.add_mul, ← h0]
    congr 1
    ac_rfl
  rw [h8, show x / 2 ^ p + (4294967296 * (y / 2 ^ p) + y % 2 ^ p * 2 ^ (32 - p)) = 4294967296 * (y / 2 ^ p) + (x / 2 ^ p + y % 2 ^ p * 2 ^ (32 - p)) by omega, Nat.mul_add_mod, Nat.mod_eq_of_lt (by omega)]
def sd_E (d : Nat → Nat) (w p : Nat) : Nat → Nat := fun i => d (i + w) / 2 ^ p + d (i + w + 1) % 2 ^ p * 2 ^ (32 - p)
theorem sd_Elt {d : Nat → Nat} {w p i : Nat} (h : ∀ i, d i < 4294967296) (hp : p < 32) : sd_E d w p i < 4294967296 := by
  have h0 := p2_sp (p := p) (by omega)
  have h1 : d (i + w) / 2 ^ p < 2 ^ (32 - p) := by
    apply Nat.div_lt_of_lt_mul
    rw [Nat.mul_comm, h0]; exact h _
  have h5 : d (i + w + 1) % 2 ^ p < 2 ^ p := Nat.mod_lt _ (Nat.two_pow_pos _)
  have h6 : (d (i + w + 1) % 2 ^ p + 1) * 2 ^ (32 - p) ≤ 2 ^ p * 2 ^ (32 - p) := Nat.mul_le_mul_right _ h5
  rw [Nat.mul_comm (2 ^ p), h0, Nat.add_mul, Nat.one_mul] at h6
  unfold sd_E
  omega
theorem sd_v {d : Nat → Nat} {w p : Nat} (hp : p < 32) : ∀ k, 2 ^ p * dg_v 4294967296 (sd_E d w p) k + d w % 2 ^ p = dg_v 4294967296 (fun i => d (w + i)) k + d (w + k) % 2 ^ p * 4294967296 ^ k := by
  intro k
  induction k with
  | zero => simp [dg_v]
  | succ k ih =>
    have e1 : dg_v 4294967296 (sd_E d w p) (k + 1) = dg_v 4294967296 (sd_E d w p) k + sd_E d w p k * 4294967296 ^ k := rfl
    have e2 : sd_E d w p k = d (w + k) / 2 ^ p + d (w + k + 1) % 2 ^ p * 2 ^ (32 - p) := by unfold sd_E; rw [Nat.add_comm k w]
    have e4 : dg_v 4294967296 (fun i => d (w + i)) (k + 1) = dg_v 4294967296 (fun i => d (w + i)) k + d (w + k) * 4294967296 ^ k := rfl
    have e5 : 4294967296 ^ (k + 1) = 4294967296 * 4294967296 ^ k := by rw [Nat.pow_succ, Nat.mul_comm]
    have e6 := Nat.div_add_mod (d (w + k)) (2 ^ p)
    have e7 : 2 ^ p * sd_E d w p k = 2 ^ p * (d (w + k) / 2 ^ p) + d (w + k + 1) % 2 ^ p * 4294967296 := by
      rw [e2, Nat.mul_add, ← p2_sp (p := p) (by omega), Nat.mul_left_comm (2 ^ p), Nat.mul_comm (2 ^ p) (2 ^ (32 - p))]
    have e8 : d (w + k) * 4294967296 ^ k = 2 ^ p * (d (w + k) / 2 ^ p) * 4294967296 ^ k + d (w + k) % 2 ^ p * 4294967296 ^ k := by rw [← Nat.add_mul, e6]
    rw [e1, e4, e5, Nat.mul_add, ← Nat.mul_assoc, e7, e8, Nat.add_mul, ← Nat.add_assoc w k 1, Nat.mul_assoc (d (w + k + 1) % 2 ^ p)]
    omega
theorem s_down_a (Tq : wq_S h t q) (A : wh_S h a qa na nga da) (CA : cw_D da na) (al : al_S a qa da t q dt) {w p c : Nat} (hp : p < 32) (hw : w ≤ 257) (hc : c ≤ 258) {xt : Nat → Int32 → ah_H → Prop} {K : ah_H → Prop}
    (hx : ∀ e : Nat → Nat, (∀ j, j < c → e j = sd_E da w p j) → (∀ j, c ≤ j → e j = dt j) → xt t (nI c) (wd_S h t q nt ngt e)) :
    ∀ (k i : Nat) (e : Nat → Nat), c = i + k → (∀ j, j < i → e j = sd_E da w p j) → (∀ j, i ≤ j → e j = dt j) → lp_WH_becomeShiftedDown_26 xt K (k + 1) t a (nI w) (nI p) (nI c) (nI i) (wd_S h t q nt ngt e) := by
  intro k
  induction k with
  | zero =>
    intro i e hi h1 h2
    have e0 : i = c := by omega
    subst e0
    rw [lp_WH_becomeShiftedDown_26]
    exact ⟨fun _ => hx e h1 h2, fun hc => absurd (nI_le (Nat.le_refl i) (by omega)) hc⟩
  | succ k ih =>
    intro i e hi h1 h2
    have H : wh_S (wd_S h t q nt ngt e) t q nt ngt e := wh_wd Tq
    have x1 := CA.1 (i + w)
    have x2 := CA.1 (i + w + 1)
    rw [lp_WH_becomeShiftedDown_26, nI_add, nI_1]
    refine ⟨fun hc => absurd hc (nI_ge (by omega) (by omega)), fun _ => ⟨A.1.1, ?_⟩⟩
    refine s_atl Tq A al (cw_258 CA) (by omega) (fun j hj => h2 j (by omega)) (fun _ v21 e21 => ⟨Tq.1, q, Tq.2.1, s_atl Tq A al (cw_258 CA) (by omega) (fun j hj => h2 j (by omega)) (fun _ v30 e30 => ⟨Tq.2.2.1, ?_, fun h33 e33 v38 e38 => ?_⟩)⟩)
    · rw [show ah_N (wd_S h t q nt ngt e) q = 258 from Tq.2.2.2]
      exact vp_in_nI (by omega) (by decide)
    · rw [show (32 : Int32) = nI 32 from rfl, nI_sub (by omega)] at e21
      rw [e21, sd_k x1 x2 hp] at e30
      rw [e30, nI_clamp (by omega), wh_up H, wd_wd] at e33
      rw [e33, e38, nI_1]
      refine ih (i + 1) _ (by omega) (fun j hj => ?_) (fun j hj => ?_)
      · by_cases z : j = i
        · rw [z, dg_us]; rfl
        · rw [dg_un z]; exact h1 j (by omega)
      · rw [dg_un (by omega)]; exact h2 j (by omega)
theorem cn_dv (CA : cw_D da na) {n : Nat} : dg_v 4294967296 da na / 2 ^ n = dg_v 4294967296 (fun i => da (n / 32 + i)) (na - n / 32) / 2 ^ (n % 32) := by
  have e : 2 ^ n = 4294967296 ^ (n / 32) * 2 ^ (n % 32) := by
    rw [BB_2, ← Nat.pow_add]; congr 1; omega
  have hp : 0 < (4294967296 : Nat) ^ (n / 32) := Nat.pow_pos (by decide)
  rw [e, ← Nat.div_div_eq_div_mul]
  congr 1
  generalize n / 32 = w at hp ⊢
  by_cases hw : w ≤ na
  · have h1 := dg_sp (B := 4294967296) (d := da) w (na - w)
    rw [show w + (na - w) = na by omega] at h1
    have h2 : dg_v 4294967296 da w < 4294967296 ^ w := dg_lt (fun i _ => CA.1 i)
    rw [h1, Nat.add_comm, Nat.mul_add_div hp, Nat.div_eq_of_lt h2, Nat.add_zero]
  · rw [show na - w = 0 by omega]
    have h1 := cw_lt CA
    have h2 : (4294967296 : Nat) ^ na ≤ 4294967296 ^ w := Nat.pow_le_pow_right (by decide) (by omega)
    rw [Nat.div_eq_of_lt (by omega)]
    rfl
/-- becomeShiftedDown(other, n) -/
theorem s_shiftDown (T : wh_S h t q nt ngt dt) (CT : cw_D dt nt) (A : wh_S h a qa na nga da) (CA : cw_D da na) (al : al_S a qa da t q dt) {n : Nat} (hn : n ≤ 8192) {K : ah_H → Prop}
    (hK : ∀ (n' : Nat) (d' : Nat → Nat), cn_D d' n' → dg_v 4294967296 d' n' = dg_v 4294967296 da na / 2 ^ n → K (wd_S h t q n' ngt d')) : w_WH_becomeShiftedDown t a (nI n) h K := by
  have Tq := T.1
  have hp : n % 32 < 32 := Nat.mod_lt _ (by decide)
  have hna := CA.2.2
  have hdv := cn_dv CA (n := n)
  unfold w_WH_becomeShiftedDown
  intro v4 e4 v5 e5
  rw [show (32 : Int32) = nI 32 from rfl, nI_div (by omega) (by decide) (by decide)] at e4
  rw [show (32 : Int32) = nI 32 from rfl, nI_rem (by omega) (by decide) (by decide)] at e5
  refine ⟨A.1.1, fun v7 e7 => ?_⟩
  have e7' : v7 = nI (na - n / 32) := by
    rw [e7, A.2.1, e4]
    by_cases hw : n / 32 ≤ na
    · rw [nI_sub hw, if_neg (nI_pos (by omega))]
    · rw [if_pos (nI_sbn (by omega) (by omega)), show na - n / 32 = 0 by omega]; rfl
  rw [e7', e4, e5]
  have hwl : n / 32 ≤ 256 := by omega
  generalize hwd : n / 32 = w at hdv hwl ⊢
  generalize hpd : n % 32 = p at hp hdv ⊢
  have key := s_down_a (h := h) (nt := nt) (ngt := ngt) (dt := dt) (K := K) Tq A CA al (w := w) (c := na - w) hp (by omega) (by omega) (xt := fun (x39 : Nat) (x40 : Int32) h41 => ah_T h41 x39 = 3 ∧ w_WH_settle x39 x40 h41 (fun h43 => ah_m h41 h43 → K h43)) (fun e h1 h2 => ⟨Tq.1, s_fin Tq CT.2.2 CT.2.1 (by omega) (fun j hj => by rw [h1 j hj]; exact sd_Elt CA.1 hp) h2 (fun n' d' C hv _ => hK n' d' C ?_)⟩) (na - w) 0 dt (by omega) (fun j h1 => absurd h1 (by omega)) (fun _ _ => rfl)
  · rw [← wh_eq T] at key
    exact ⟨_, key⟩
  · have h3 := sd_v (d := da) (w := w) hp (na - w)
    have h4 : da (w + (na - w)) = 0 := CA.2.1 _ (by omega)
    rw [h4, Nat.zero_mod, Nat.zero_mul, Nat.add_zero] at h3
    rw [hv, dg_cg h1, hdv, ← h3, Nat.mul_add_div (Nat.two_pow_pos p), Nat.div_eq_of_lt (Nat.mod_lt _ (Nat.two_pow_pos p)), Nat.add_zero]
end SH2
