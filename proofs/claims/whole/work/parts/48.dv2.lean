section DV2
variable {h : ah_H}
/-- the Division dv with its three Wholes -/
def dv_S (h : ah_H) (dv Q R S : Nat) : Prop := ah_T h dv = 2 ∧ ah_R h 2 dv = some Q ∧ ah_R h 3 dv = some R ∧ ah_R h 4 dv = some S
theorem dw_u {e : Nat → Nat} {j i x : Nat} : (fun k => dg_u e (j + i) x (j + k)) = dg_u (fun k => e (j + k)) i x := by
  funext k
  unfold dg_u
  by_cases hk : k = i
  · rw [hk, if_pos rfl, if_pos rfl]
  · rw [if_neg (by omega), if_neg hk]
theorem mb_lt {B W u : Nat} (h : u < B) : W * B + u < (W + 1) * B := by rw [Nat.add_mul, Nat.one_mul]; omega
theorem tp_1 {w : Nat → Nat} {n b : Nat} (hw : ∀ i, w i < 4294967296) (hb : b = w (n + 1) * 4294967296 + w n) : b * 4294967296 ^ n ≤ dg_v 4294967296 w (n + 2) ∧ dg_v 4294967296 w (n + 2) < (b + 1) * 4294967296 ^ n := by
  subst hb
  have h1 : dg_v 4294967296 w n < 4294967296 ^ n := dg_lt (fun i _ => hw i)
  have e : dg_v 4294967296 w (n + 2) = dg_v 4294967296 w n + w n * 4294967296 ^ n + w (n + 1) * 4294967296 ^ (n + 1) := rfl
  have e2 : w (n + 1) * 4294967296 ^ (n + 1) = w (n + 1) * 4294967296 * 4294967296 ^ n := by rw [Nat.pow_succ, Nat.mul_comm (4294967296 ^ n), Nat.mul_assoc]
  rw [e, e2]
  constructor
  · rw [Nat.add_mul]; omega
  · rw [Nat.add_mul, Nat.add_mul, Nat.one_mul]; omega
theorem tp_2 {w : Nat → Nat} {n b : Nat} (hw : ∀ i, w i < 4294967296) (hb : b = w (n + 2) * 4294967296 + w (n + 1)) : (b * 4294967296 + w n) * 4294967296 ^ n ≤ dg_v 4294967296 w (n + 3) ∧ dg_v 4294967296 w (n + 3) < (b * 4294967296 + w n + 1) * 4294967296 ^ n := by
  subst hb
  have h1 : dg_v 4294967296 w n < 4294967296 ^ n := dg_lt (fun i _ => hw i)
  have e : dg_v 4294967296 w (n + 3) = dg_v 4294967296 w n + w n * 4294967296 ^ n + w (n + 1) * 4294967296 ^ (n + 1) + w (n + 2) * 4294967296 ^ (n + 2) := rfl
  have e2 : w (n + 1) * 4294967296 ^ (n + 1) = w (n + 1) * 4294967296 * 4294967296 ^ n := by rw [Nat.pow_succ, Nat.mul_comm (4294967296 ^ n), Nat.mul_assoc]
  have e3 : w (n + 2) * 4294967296 ^ (n + 2) = w (n + 2) * 4294967296 * 4294967296 * 4294967296 ^ n := by rw [Nat.pow_succ, Nat.pow_succ, Nat.mul_comm (4294967296 ^ n), Nat.mul_assoc, Nat.mul_assoc]; ac_rfl
  rw [e, e2, e3]
  constructor
  · rw [Nat.add_mul, Nat.add_mul (w (n + 2) * 4294967296), Nat.add_mul]; omega
  · rw [Nat.add_mul, Nat.add_mul, Nat.one_mul, Nat.add_mul (w (n + 2) * 4294967296), Nat.add_mul (w (n + 2) * 4294967296 * 4294967296)]; omega
theorem tp_0 {D : Nat → Nat} {m : Nat} (hD : ∀ i, D i < 4294967296) : D m * 4294967296 ^ m ≤ dg_v 4294967296 D (m + 1) ∧ dg_v 4294967296 D (m + 1) < (D m + 1) * 4294967296 ^ m := by
  have h1 : dg_v 4294967296 D m < 4294967296 ^ m := dg_lt (fun i _ => hD i)
  have e : dg_v 4294967296 D (m + 1) = dg_v 4294967296 D m + D m * 4294967296 ^ m := rfl
  rw [e]
  constructor
  · omega
  · rw [Nat.add_mul, Nat.one_mul]; omega
variable {dv Q R S qR qS nr n : Nat} {ngr ngs : Bool} {e D : Nat → Nat}
/-- guessLimb(j): the limb, or one more -/
theorem s_guess (V : dv_S h dv Q R S) (Rw : wh_S h R qR nr ngr e) (he : ∀ i, e i < 4294967296) (hz : ∀ i, 258 ≤ i → e i = 0) {m : Nat} (Sw : wh_S h S qS (m + 1) ngs D) (C : cn_D D (m + 1)) (hf2 : 2147483648 ≤ D m) {j : Nat} (hj : j + m ≤ 256) (hup : dg_v 4294967296 (fun i => e (j + 1 + i)) (m + 1) < dg_v 4294967296 D (m + 1)) {K : Int64 → ah_H → Prop}
    (hK : ∀ g, g < 4294967296 → dg_v 4294967296 (fun i => e (j + i)) (m + 2) / dg_v 4294967296 D (m + 1) ≤ g → g ≤ dg_v 4294967296 (fun i => e (j + i)) (m + 2) / dg_v 4294967296 D (m + 1) + 1 → K (lN g) h) : w_DV_guessLimb dv (nI j) h K := by
  have hD := C.1
  have hDz := cn_258 C
  have hf := hD m
  -- the window
  generalize hw : (fun i => e (j + i)) = w at hK
  have hwb : ∀ i, w i < 4294967296 := fun i => by rw [← hw]; exact he _
  have hwm : w (m + 1) = e (j + (m + 1)) := by rw [← hw]
  have hwm0 : w m = e (j + m) := by rw [← hw]
  have hW : dg_v 4294967296 w (m + 2) = w 0 + 4294967296 * dg_v 4294967296 (fun i => e (j + 1 + i)) (m + 1) := by
    rw [dg_hd]
    congr 3
    funext i
    rw [← hw]
    show e (j + (1 + i)) = _
    rw [Nat.add_assoc]
  obtain ⟨both, hbo⟩ : ∃ x, x = w (m + 1) * 4294967296 + w m := ⟨_, rfl⟩
  have ht := tp_1 (n := m) hwb hbo
  have hv := tp_0 (m := m) hD
  have hupt := tp_0 (D := fun i => e (j + 1 + i)) (m := m) (fun i => he _)
  rw [show e (j + 1 + m) = w (m + 1) by rw [hwm]; congr 1; omega] at hupt
  have hPm : 0 < (4294967296 : Nat) ^ m := Nat.pow_pos (by decide)
  have hhi : w (m + 1) ≤ D m := by
    have h1 : w (m + 1) * 4294967296 ^ m < (D m + 1) * 4294967296 ^ m := by omega
    have := Nat.lt_of_mul_lt_mul_right h1
    omega
  generalize hVv : dg_v 4294967296 D (m + 1) = v at *
  generalize hWW : dg_v 4294967296 w (m + 2) = W at *
  generalize hUU : dg_v 4294967296 (fun i => e (j + 1 + i)) (m + 1) = U at *
  have hv0 : 0 < v := by
    have : 1 * 4294967296 ^ m ≤ D m * 4294967296 ^ m := Nat.mul_le_mul_right _ (by omega)
    omega
  have hqv : W / v * v ≤ W := Nat.div_mul_le_self W v
  have hqv2 : W < (W / v + 1) * v := by rw [Nat.mul_comm]; exact Nat.lt_mul_div_succ W hv0
  have hqB : W / v < 4294967296 := by
    apply Nat.div_lt_of_lt_mul
    have h1 : 4294967296 * (U + 1) ≤ 4294967296 * v := Nat.mul_le_mul_left _ hup
    have h2 := hwb 0
    rw [Nat.mul_comm v]
    omega
  generalize hq : W / v = q at *
  have hqf : q * D m ≤ both := gu_ge hPm hv.1 ht.2 hqv
  have hwb1 := hwb (m + 1)
  have hwb0 := hwb m
  have hboth : both < 18446744073709551616 := by omega
  -- the third digit and the second of the divisor
  obtain ⟨u0, hu0⟩ : ∃ u0, u0 = if 2 ≤ j + (m + 1) then e (j + (m + 1) - 2) else 0 := ⟨_, rfl⟩
  have hu0b : u0 < 4294967296 := by rw [hu0]; split; exact he _; decide
  obtain ⟨s, hs⟩ : ∃ s, s = ds_n D 2 (m + 1) := ⟨_, rfl⟩
  have hsb : s < 4294967296 := by rw [hs]; exact ds_lt hD
  obtain ⟨W2, v2, P, p1, p2, p3, p4, p5, p6⟩ : ∃ W2 v2 P, (D m * 4294967296 + s) * P ≤ v2 ∧ v2 < (D m * 4294967296 + s + 1) * P ∧ (both * 4294967296 + u0) * P ≤ W2 ∧ W2 < (both * 4294967296 + u0 + 1) * P ∧ q * v2 ≤ W2 ∧ W2 < (q + 1) * v2 := by
    rcases Nat.eq_zero_or_pos m with z | z
    · subst z
      have es : s = 0 := by rw [hs]; rfl
      have e1 : D 0 = v := by rw [← hVv]; show _ = 0 + D 0 * 4294967296 ^ 0; rw [Nat.pow_zero, Nat.mul_one, Nat.zero_add]
      have e2 : both = W := by
        rw [Nat.pow_zero, Nat.mul_one, Nat.mul_one] at ht
        omega
      rw [es, e1, e2, Nat.add_zero]
      refine ⟨W * 4294967296 + u0, v * 4294967296, 1, by omega, by omega, by omega, by omega, ?_, ?_⟩
      · rw [← Nat.mul_assoc]
        exact Nat.le_trans (Nat.mul_le_mul_right _ hqv) (Nat.le_add_right _ _)
      · rw [← Nat.mul_assoc]
        exact Nat.lt_of_lt_of_le (mb_lt hu0b) (Nat.mul_le_mul_right _ hqv2)
    · obtain ⟨k, rfl⟩ : ∃ k, m = k + 1 := ⟨m - 1, by omega⟩
      have es : s = D k := by rw [hs]; unfold ds_n; rw [if_pos (by omega)]; congr 1
      have eu : u0 = w k := by rw [hu0, if_pos (by omega), ← hw]; show _ = e (j + k); congr 1
      have t1 := tp_1 (w := D) (n := k) hD rfl
      have t2 := tp_2 (w := w) (n := k) hwb hbo
      rw [show k + 2 = k + 1 + 1 from rfl, hVv] at t1
      rw [show k + 3 = k + 1 + 2 from rfl, hWW] at t2
      rw [es, eu]
      exact ⟨W, v, 4294967296 ^ k, t1.1, t1.2, t2.1, t2.2, hqv, hqv2⟩
  have key : ∀ g o, g < 4294967296 → both = g * D m + o → o < 4294967296 * 4 → q ≤ g → bk_DV_guessLimb_92 K dv (nI (j + (m + 1))) (lN (D m)) (lN s) (lN both) (lN g) h := by
    intro g o hg hb ho hqg v83 e83
    have eo : v83 = lN o := by
      rw [e83, lN_mul, lN_sub (by omega)]
      congr 1
      omega
    rw [eo]
    refine ⟨_, s_gu_a (K := K) V.1 V.2.2.1 Rw hz (top := j + (m + 1)) (both := both) (u0 := u0) (by omega) hu0 hu0b hf hf2 hsb (fun g => q ≤ g) (fun g h1 h2 => ?_) (fun g h1 h2 h3 => ?_) 2 0 g o (by omega) hg hb (by omega) ho hqg⟩
    · have := gu_dn p1 p4 p5 h2
      omega
    · have h4 := gu_up p2 p3 p6 h3 (by omega)
      exact ⟨hK g h1 h2 h4, hK g h1 h2 h4⟩
  unfold w_DV_guessLimb
  refine ⟨V.1, S, V.2.2.2, Sw.1.1, fun v7 e7 => ⟨S, V.2.2.2, S, V.2.2.2, Sw.1.1, Sw.1.1, ?_⟩⟩
  rw [Sw.2.1, nI_add] at e7
  rw [Sw.2.1, e7, nI_m1 (n := m + 1) (by omega), Nat.add_sub_cancel]
  refine s_at Sw hDz (by omega) (fun _ => ⟨S, V.2.2.2, S, V.2.2.2, Sw.1.1, Sw.1.1, ?_⟩)
  rw [Sw.2.1, show (2 : Int32) = nI 2 from rfl]
  refine s_ats Sw hDz (by omega) (by decide) (fun _ => ⟨R, V.2.2.1, Rw.1.1, s_at Rw hz (by omega) (fun _ => ⟨R, V.2.2.1, Rw.1.1, ?_⟩)⟩)
  rw [nI_m1 (n := j + (m + 1)) (by omega)]
  refine s_at Rw hz (by omega) (fun _ v63 e63 => ?_)
  rw [← hwm, show j + (m + 1) - 1 = j + m by omega, ← hwm0, lo_eq hwb0 hwb1, ← hbo] at e63
  rw [e63, ← hs, ← hwm]
  refine ⟨fun hl => ?_, fun hl => ?_⟩
  · have hlt := (pk_lLT (by omega) (by omega)).mp hl
    have hd := Nat.div_add_mod both (D m)
    have hr : both % D m < D m := Nat.mod_lt _ (by omega)
    refine s_uq hboth (by omega) hf (fun _ => key (both / D m) (both % D m) ?_ (by rw [Nat.mul_comm]; omega) (by omega) ?_)
    · apply Nat.div_lt_of_lt_mul
      have h1 : (w (m + 1) + 1) * 4294967296 ≤ D m * 4294967296 := Nat.mul_le_mul_right _ hlt
      rw [Nat.add_mul] at h1
      omega
    · exact (Nat.le_div_iff_mul_le (by omega)).mpr hqf
  · have hge : ¬ w (m + 1) < D m := fun z => hl ((pk_lLT (by omega) (by omega)).mpr z)
    have he2 : w (m + 1) = D m := by omega
    refine key 4294967295 (both - 4294967295 * D m) (by decide) (by omega) (by omega) (by omega)
end DV2
