section SH1
variable {h : ah_H}
theorem nI_sub {a b : Nat} (h : b ≤ a) : nI a - nI b = nI (a - b) := by
  have : nI a = nI (a - b) + nI b := by rw [nI_add]; congr 1; omega
  rw [this, Int32.add_sub_cancel]
theorem nI_sbn {a b : Nat} (h : a < b) (hb : b < 2 ^ 31) : nI a - nI b < 0 := by
  rw [Int32.lt_iff_toInt_lt, Int32.toInt_sub, nI_toInt (by omega), nI_toInt (by omega), Int32.toInt_zero]
  have h1 : ((a : Int) - (b : Int)).bmod (2 ^ 32) = (a : Int) - (b : Int) := by
    apply Int.bmod_eq_of_le <;> omega
  rw [h1]; omega
theorem nI_div {a b : Nat} (ha : a < 2 ^ 31) (h0 : 0 < b) (hb : b < 2 ^ 31) : nI a / nI b = nI (a / b) := by
  apply Int32.toInt_inj.mp
  have h2 : a / b ≤ a := Nat.div_le_self a b
  rw [Int32.toInt_div, nI_toInt ha, nI_toInt hb, nI_toInt (by omega)]
  have h1 : ((a : Int).tdiv (b : Int)) = ((a / b : Nat) : Int) := by rw [Int.tdiv_eq_ediv_of_nonneg (by omega)]; rfl
  rw [h1]
  clear h1
  generalize a / b = c at h2
  apply Int.bmod_eq_of_le <;> omega
theorem nI_rem {a b : Nat} (ha : a < 2 ^ 31) (h0 : 0 < b) (hb : b < 2 ^ 31) : nI a - nI a / nI b * nI b = nI (a % b) := by
  have h2 := Nat.div_add_mod a b
  rw [nI_div ha h0 hb, pk_mul, nI_sub (by rw [Nat.mul_comm]; exact Nat.mul_div_le a b)]
  congr 1
  rw [Nat.mul_comm]; omega
/-- the digit s places lower -/
def ds_n (d : Nat → Nat) (s : Nat) : Nat → Nat := fun i => if s ≤ i then d (i - s) else 0
theorem s_ats {w q n : Nat} {ng : Bool} {d : Nat → Nat} (H : wh_S h w q n ng d) (hz : ∀ i, 258 ≤ i → d i = 0) {i s : Nat} (hi : i < 2 ^ 30) (hs : s < 2 ^ 30) {K : Int64 → ah_H → Prop} (hK : K (lN (ds_n d s i)) h) : w_WH_at w (nI i - nI s) h K := by
  unfold ds_n at hK
  by_cases hc : s ≤ i
  · rw [if_pos hc] at hK
    rw [nI_sub hc]
    exact s_at H hz (by omega) hK
  · rw [if_neg hc] at hK
    exact s_atN (nI_sbn (by omega) (by omega)) hK
theorem p2_sp {p : Nat} (hp : p ≤ 32) : 2 ^ (32 - p) * 2 ^ p = 4294967296 := by rw [← Nat.pow_add, show 32 - p + p = 32 by omega]
theorem su_m {y x p : Nat} (hp : p < 32) (hx : x < 2 ^ p) : (y * 2 ^ p + x) % 4294967296 = y % 2 ^ (32 - p) * 2 ^ p + x := by
  have h2 := p2_sp (p := p) (by omega)
  have h3 : y % 2 ^ (32 - p) < 2 ^ (32 - p) := Nat.mod_lt _ (Nat.two_pow_pos _)
  have h4 := Nat.div_add_mod y (2 ^ (32 - p))
  have h5 : y * 2 ^ p = 4294967296 * (y / 2 ^ (32 - p)) + y % 2 ^ (32 - p) * 2 ^ p := by
    conv => lhs; rw [← h4]
    rw [Nat.add_mul, ← h2, Nat.mul_right_comm]
  have h6 : (y % 2 ^ (32 - p) + 1) * 2 ^ p ≤ 2 ^ (32 - p) * 2 ^ p := Nat.mul_le_mul_right _ h3
  rw [Nat.add_mul, Nat.one_mul, h2] at h6
  rw [h5, Nat.add_assoc, Nat.mul_add_mod, Nat.mod_eq_of_lt (by omega)]
theorem su_k {y x p : Nat} (hy : y < 4294967296) (hp : p < 32) (hx : x < 2 ^ p) : ((lN y <<< ((nI p).toInt64 &&& 63)) ||| lN x) &&& (4294967295 : Int64) = lN (y % 2 ^ (32 - p) * 2 ^ p + x) := by
  have h1 : (2 : Nat) ^ p ≤ 2 ^ 31 := Nat.pow_le_pow_right (by decide) (by omega)
  have h2 : y * 2 ^ p ≤ 4294967295 * 2 ^ 31 := Nat.mul_le_mul (by omega) h1
  have e31 : (2 : Nat) ^ 31 = 2147483648 := by decide
  have e3 : (4294967295 : Nat) * 2147483648 = 9223372034707292160 := by decide
  rw [e31] at h1 h2
  rw [e3] at h2
  have h3 : y * 2 ^ p + x < 18446744073709551616 := by omega
  rw [wb_shl y (show p < 64 by omega), g_or (k := p) rfl hx h3, ms_k h3, su_m hp hx]
/-- the digits times 2^p, one place up beyond the whole places -/
def su_E (d : Nat → Nat) (w p : Nat) : Nat → Nat := fun i => ds_n d w i % 2 ^ (32 - p) * 2 ^ p + ds_n d (w + 1) i / 2 ^ (32 - p)
theorem su_x {x p : Nat} (hx : x < 4294967296) (hp : p < 32) : x / 2 ^ (32 - p) < 2 ^ p := by
  apply Nat.div_lt_of_lt_mul
  rw [p2_sp (by omega)]; exact hx
theorem ds_lt {d : Nat → Nat} {s i : Nat} (h : ∀ i, d i < 4294967296) : ds_n d s i < 4294967296 := by
  unfold ds_n; split
  · exact h _
  · decide
theorem su_Elt {d : Nat → Nat} {w p i : Nat} (h : ∀ i, d i < 4294967296) (hp : p < 32) : su_E d w p i < 4294967296 := by
  have h1 := su_m (y := ds_n d w i) hp (su_x (ds_lt (s := w + 1) (i := i) h) hp)
  unfold su_E
  rw [← h1]
  exact Nat.mod_lt _ (by decide)
theorem su_v {d : Nat → Nat} {w p : Nat} (hp : p < 32) : ∀ k, dg_v 4294967296 (su_E d w p) (w + k) + ds_n d 1 k / 2 ^ (32 - p) * 4294967296 ^ (w + k) = dg_v 4294967296 d k * 2 ^ p * 4294967296 ^ w := by
  intro k
  induction k with
  | zero =>
    have h0 : dg_v 4294967296 (su_E d w p) w = 0 := dg_0 (fun i hi => by
      unfold su_E ds_n
      rw [if_neg (by omega), if_neg (by omega)]; simp)
    rw [Nat.add_zero, h0]
    unfold ds_n
    simp [dg_v]
  | succ k ih =>
    have e1 : dg_v 4294967296 (su_E d w p) (w + (k + 1)) = dg_v 4294967296 (su_E d w p) (w + k) + su_E d w p (w + k) * 4294967296 ^ (w + k) := rfl
    have e2 : su_E d w p (w + k) = d k % 2 ^ (32 - p) * 2 ^ p + ds_n d 1 k / 2 ^ (32 - p) := by
      unfold su_E ds_n
      rw [if_pos (by omega), Nat.add_sub_cancel_left]
      by_cases hk : 1 ≤ k
      · rw [if_pos (by omega), if_pos hk, show w + k - (w + 1) = k - 1 by omega]
      · rw [if_neg (by omega), if_neg hk]
    have e3 : ds_n d 1 (k + 1) = d k := by unfold ds_n; rw [if_pos (by omega), Nat.add_sub_cancel]
    have e4 : dg_v 4294967296 d (k + 1) = dg_v 4294967296 d k + d k * 4294967296 ^ k := rfl
    have e5 : 4294967296 ^ (w + (k + 1)) = 4294967296 * 4294967296 ^ (w + k) := by rw [← Nat.add_assoc, Nat.pow_succ, Nat.mul_comm]
    have e6 := Nat.div_add_mod (d k) (2 ^ (32 - p))
    have e7 : d k * 4294967296 ^ k * 2 ^ p * 4294967296 ^ w = d k * 2 ^ p * 4294967296 ^ (w + k) := by
      rw [Nat.pow_add, Nat.mul_comm (4294967296 ^ w), Nat.mul_right_comm (d k), Nat.mul_assoc (d k * 2 ^ p)]
    have e8 : d k * 2 ^ p = d k / 2 ^ (32 - p) * 4294967296 + d k % 2 ^ (32 - p) * 2 ^ p := by
      conv => lhs; rw [← e6]
      rw [Nat.add_mul, ← p2_sp (p := p) (by omega), Nat.mul_comm (2 ^ (32 - p)), Nat.mul_assoc]
    rw [e1, e2, e3, e4, e5, Nat.add_mul, Nat.add_mul (dg_v 4294967296 d k), Nat.add_mul (dg_v 4294967296 d k * 2 ^ p), ← ih, e7, e8, Nat.add_mul, Nat.mul_assoc (d k / 2 ^ (32 - p))]
    omega
variable {t q nt : Nat} {ngt : Bool} {dt : Nat → Nat} {a qa na : Nat} {nga : Bool} {da : Nat → Nat}
theorem s_up_a (Tq : wq_S h t q) (A : wh_S h a qa na nga da) (CA : cn_D da na) (ha : a ≠ t ∧ qa ≠ q) {w p c : Nat} (hp : p < 32) (hw : w ≤ 257) (hc : c ≤ 258) {xt : Nat → Int32 → ah_H → Prop} {K : ah_H → Prop}
    (hx : ∀ e : Nat → Nat, (∀ j, j < c → e j = su_E da w p j) → (∀ j, c ≤ j → e j = dt j) → xt t (nI c) (wd_S h t q nt ngt e)) :
    ∀ (i : Nat) (e : Nat → Nat), i ≤ c → (∀ j, i ≤ j → j < c → e j = su_E da w p j) → (∀ j, c ≤ j → e j = dt j) → lp_WH_becomeShiftedUp_33 xt K (i + 1) t a (nI w) (nI p) (nI c) (nI i - 1) (wd_S h t q nt ngt e) := by
  intro i
  induction i with
  | zero =>
    intro e _ h1 h2
    rw [lp_WH_becomeShiftedUp_33]
    exact ⟨fun _ => hx e (fun j hj => h1 j (Nat.zero_le j) hj) h2, fun hc => absurd (by decide) hc⟩
  | succ i ih =>
    intro e hi h1 h2
    have H : wh_S (wd_S h t q nt ngt e) t q nt ngt e := wh_wd Tq
    have A' : wh_S (wd_S h t q nt ngt e) a qa na nga da := wh_ot A ha.1 ha.2
    have ei : nI (i + 1) - (1 : Int32) = nI i := nI_m1 (n := i + 1) (by omega)
    have e1 : nI i - nI w - (1 : Int32) = nI i - nI (w + 1) := by rw [← nI_1, Int32.sub_sub]
    have hx1 := ds_lt (s := w + 1) (i := i) CA.1
    have hx0 := ds_lt (s := w) (i := i) CA.1
    rw [ei, lp_WH_becomeShiftedUp_33]
    refine ⟨fun hc => absurd hc (nI_pos (by omega)), fun _ => ⟨A.1.1, ?_⟩⟩
    rw [e1]
    refine s_ats A' (cn_258 CA) (by omega) (by omega) (fun _ v22 e22 => ⟨Tq.1, q, Tq.2.1, s_ats A' (cn_258 CA) (by omega) (by omega) (fun _ v31 e31 => ⟨Tq.2.2.1, ?_, fun h34 e34 v39 e39 => ?_⟩)⟩)
    · rw [show ah_N (wd_S h t q nt ngt e) q = 258 from Tq.2.2.2]
      exact vp_in_nI (by omega) (by decide)
    · rw [show (32 : Int32) = nI 32 from rfl, nI_sub (by omega), wb_shr (by omega) (by omega)] at e22
      rw [e22, su_k hx0 hp (su_x hx1 hp)] at e31
      rw [e31, nI_clamp (by omega), wh_up H, wd_wd] at e34
      rw [e34, e39, ← Int32.sub_eq_add_neg]
      refine ih _ (by omega) (fun j hj1 hj2 => ?_) (fun j hj => ?_)
      · by_cases z : j = i
        · rw [z, dg_us]; rfl
        · rw [dg_un z]; exact h1 j (by omega) hj2
      · rw [dg_un (by omega)]; exact h2 j hj
/-- becomeShiftedUp(other, n) -/
theorem s_shiftUp (T : wh_S h t q nt ngt dt) (CT : cn_D dt nt) (A : wh_S h a qa na nga da) (CA : cn_D da na) (ha : a ≠ t ∧ qa ≠ q) {n : Nat} (hn : n ≤ 8192) (hr : na + n / 32 ≤ 257) {K : ah_H → Prop}
    (hK : ∀ (n' : Nat) (d' : Nat → Nat), cn_D d' n' → dg_v 4294967296 d' n' = dg_v 4294967296 da na * 2 ^ n → n' ≤ na + n / 32 + 1 → K (wd_S h t q n' ngt d')) : w_WH_becomeShiftedUp t a (nI n) h K := by
  have Tq := T.1
  have hp : n % 32 < 32 := Nat.mod_lt _ (by decide)
  unfold w_WH_becomeShiftedUp
  intro v4 e4 v5 e5
  rw [show (32 : Int32) = nI 32 from rfl, nI_div (by omega) (by decide) (by decide)] at e4
  rw [show (32 : Int32) = nI 32 from rfl, nI_rem (by omega) (by decide) (by decide)] at e5
  refine ⟨A.1.1, fun v7 e7 v8 e8 => ?_⟩
  have e7' : v7 = nI (na + n / 32 + 1) := by
    rw [e7, A.2.1, e4, nI_add, nI_1, if_neg]
    intro y
    have := (nI_ltI (a := 258) (b := na + n / 32 + 1) (by decide) (by omega)).mp y
    omega
  rw [e8, e7', e4, e5]
  generalize hwd : n / 32 = w at hr hK ⊢
  generalize hpd : n % 32 = p at hp ⊢
  have key := s_up_a (h := h) (nt := nt) (ngt := ngt) (dt := dt) (K := K) Tq A CA ha (w := w) (c := na + w + 1) hp (by omega) (by omega) (xt := fun (x40 : Nat) (x41 : Int32) h42 => ah_T h42 x40 = 3 ∧ w_WH_settle x40 x41 h42 (fun h44 => ah_m h42 h44 → K h44)) (fun e h1 h2 => ⟨Tq.1, s_fin Tq CT.2.2.2 CT.2.1 (by omega) (fun j hj => by rw [h1 j hj]; exact su_Elt CA.1 hp) h2 (fun n' d' C hv _ => ?_)⟩) (na + w + 1) dt (Nat.le_refl _) (fun j h1 h2 => absurd h1 (by omega)) (fun _ _ => rfl)
  · rw [← wh_eq T] at key
    exact ⟨_, key⟩
  · have e1 : dg_v 4294967296 e (na + w + 1) = dg_v 4294967296 da na * 2 ^ n := by
      have h3 := su_v (d := da) (w := w) hp (na + 1)
      have h4 : ds_n da 1 (na + 1) = 0 := by unfold ds_n; rw [if_pos (by omega), Nat.add_sub_cancel]; exact CA.2.1 na (Nat.le_refl _)
      have h5 : dg_v 4294967296 da (na + 1) = dg_v 4294967296 da na := dg_z (by omega) (fun i hi _ => CA.2.1 i hi)
      rw [h4, Nat.zero_div, Nat.zero_mul, Nat.add_zero, h5] at h3
      rw [dg_cg h1, show na + w + 1 = w + (na + 1) by omega, h3, BB_2, Nat.mul_assoc, ← Nat.pow_add]
      congr 2
      omega
    rw [e1] at hv
    refine hK n' d' C hv ?_
    apply Nat.le_of_not_lt
    intro h9
    have h10 := cn_ge C (by omega)
    rw [← hv] at e1
    have h11 : dg_v 4294967296 e (na + w + 1) < 4294967296 ^ (na + w + 1) := dg_lt (fun j hj => by rw [h1 j hj]; exact su_Elt CA.1 hp)
    have h12 : (4294967296 : Nat) ^ (na + w + 1) ≤ 4294967296 ^ (n' - 1) := Nat.pow_le_pow_right (by decide) (by omega)
    omega
end SH1
