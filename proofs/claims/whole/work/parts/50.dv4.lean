section DV4
variable {h : ah_H} {dv Q R S qQ qR qS nr : Nat} {ngr ngs : Bool} {e D : Nat → Nat}
theorem nl_B {B x U v : Nat} (hx : x < B) (hU : U < v) : (x + B * U) / v < B := by
  apply Nat.div_lt_of_lt_mul
  have h1 : B * (U + 1) ≤ B * v := Nat.mul_le_mul_left _ hU
  rw [Nat.mul_add] at h1
  rw [Nat.mul_comm v]
  omega
theorem nl_0 {W v g W1 : Nat} (hv : 0 < v) (h1 : W / v ≤ g) (b3 : W + 0 = W1 + g * v) : W = g * v + W1 ∧ W1 < v := by
  have h2 : g ≤ W / v := (Nat.le_div_iff_mul_le hv).mpr (by omega)
  have h3 : g = W / v := by omega
  have h4 : W < (W / v + 1) * v := by rw [Nat.mul_comm]; exact Nat.lt_mul_div_succ W hv
  rw [← h3, Nat.add_mul] at h4
  omega
theorem nl_1 {W v g W1 W2 c2 P : Nat} (hv : 0 < v) (h1 : W / v ≤ g) (h2 : g ≤ W / v + 1) (b3 : W + P = W1 + g * v) (hW1 : W1 < P) (f3 : W2 + c2 * P = W1 + v) (hW2 : W2 < P) (hW : W < P) : g = W / v + 1 ∧ W2 < v ∧ W = W / v * v + W2 := by
  have hqv : W / v * v ≤ W := Nat.div_mul_le_self W v
  have h4 : W < (W / v + 1) * v := by rw [Nat.mul_comm]; exact Nat.lt_mul_div_succ W hv
  have h3 : g = W / v + 1 := by
    rcases Nat.lt_or_ge (W / v) g with z | z
    · omega
    · have e0 : g = W / v := by omega
      rw [e0] at b3
      omega
  rw [Nat.add_mul] at h4
  rw [h3, Nat.add_mul] at b3
  have hc2 : c2 = 1 := by
    rcases Nat.lt_trichotomy c2 1 with z | z | z
    · have : c2 = 0 := by omega
      rw [this, Nat.zero_mul] at f3
      omega
    · exact z
    · have : 2 * P ≤ c2 * P := Nat.mul_le_mul_right _ z
      omega
  rw [hc2] at f3
  omega
/-- nextLimb(j) -/
theorem s_nextLimb (V : dv_S h dv Q R S) (Rw : wh_S h R qR nr ngr e) (he : ∀ i, e i < 4294967296) (hz : ∀ i, 258 ≤ i → e i = 0) {m : Nat} (Sw : wh_S h S qS (m + 1) ngs D) (C : cn_D D (m + 1)) (hf2 : 2147483648 ≤ D m) (hSR : S ≠ R) (hq : qS ≠ qR) {j : Nat} (hj : j + m ≤ 256) (hup : dg_v 4294967296 (fun i => e (j + 1 + i)) (m + 1) < dg_v 4294967296 D (m + 1)) {K : Int64 → ah_H → Prop}
    (hK : ∀ (q r : Nat) (e' : Nat → Nat), q < 4294967296 → (∀ i, e' i < 4294967296) → (∀ l, (l < j ∨ j + m + 2 ≤ l) → e' l = e l) → dg_v 4294967296 (fun i => e (j + i)) (m + 2) = q * dg_v 4294967296 D (m + 1) + r → r < dg_v 4294967296 D (m + 1) → dg_v 4294967296 (fun i => e' (j + i)) (m + 2) = r → K (lN q) (wd_S h R qR nr ngr e')) : w_DV_nextLimb dv (nI j) h K := by
  unfold w_DV_nextLimb
  have hW : dg_v 4294967296 (fun i => e (j + i)) (m + 2) = e j + 4294967296 * dg_v 4294967296 (fun i => e (j + 1 + i)) (m + 1) := by
    rw [dg_hd]
    congr 3
    funext i
    show e (j + (1 + i)) = _
    rw [Nat.add_assoc]
  have hbW : dg_v 4294967296 (fun i => e (j + i)) (m + 2) < 4294967296 ^ (m + 2) := dg_lt (fun i _ => he _)
  have hbv : dg_v 4294967296 D (m + 1) < 4294967296 ^ (m + 1) := dg_lt (fun i _ => C.1 i)
  have hp := p_s (m + 1)
  refine ⟨V.1, s_guess V Rw he hz Sw C hf2 hj hup (fun g hg hq1 hq2 _ => ?_)⟩
  have hv0 : 0 < dg_v 4294967296 D (m + 1) := by omega
  have hqB : dg_v 4294967296 (fun i => e (j + i)) (m + 2) / dg_v 4294967296 D (m + 1) < 4294967296 := by
    rw [hW]
    exact nl_B (he j) hup
  refine s_takeAway V Rw he Sw C.1 hq (by omega) hg (fun e1 c b1 b2 b3 _ => ?_)
  have hb1 : dg_v 4294967296 (fun k => e1 (j + k)) (m + 2) < 4294967296 ^ (m + 2) := dg_lt (fun i _ => b1 _)
  refine ⟨fun hc => ?_, fun hc => ?_⟩
  · have hcf := bi_0.mp hc
    rw [hcf] at b3
    simp only [Bool.false_eq_true, if_false] at b3
    rw [Nat.zero_mul] at b3
    have b4 := nl_0 hv0 hq1 b3
    exact hK g _ e1 hg b1 (fun l hl => b2 l (by omega)) b4.1 b4.2 rfl
  · have hct : c = true := by
      cases c
      · exact absurd rfl hc
      · rfl
    rw [hct] at b3
    simp only [if_true] at b3
    rw [Nat.one_mul] at b3
    have Rw1 : wh_S (wd_S h R qR nr ngr e1) R qR nr ngr e1 := wh_wd Rw.1
    have V1 : dv_S (wd_S h R qR nr ngr e1) dv Q R S := V
    have Sw1 : wh_S (wd_S h R qR nr ngr e1) S qS (m + 1) ngs D := wh_ot Sw hSR hq
    refine s_putBack V1 Rw1 b1 Sw1 C.1 hq (by omega) (fun e2 c2 f1 f2 f3 _ v18 e18 => ?_)
    rw [wd_wd]
    have hb2 : dg_v 4294967296 (fun k => e2 (j + k)) (m + 2) < 4294967296 ^ (m + 2) := dg_lt (fun i _ => f1 _)
    obtain ⟨b5, b6, b7⟩ := nl_1 hv0 hq1 hq2 b3 hb1 f3 hb2 hbW
    have e5 : v18 = lN (dg_v 4294967296 (fun i => e (j + i)) (m + 2) / dg_v 4294967296 D (m + 1)) := by
      rw [e18, b5, show (1 : Int64) = lN 1 from rfl, lN_sub (Nat.le_add_left _ _), Nat.add_sub_cancel]
    show K v18 _
    rw [e5]
    refine hK _ _ e2 hqB f1 (fun l hl => ?_) b7 b6 rfl
    rw [f2 l (by omega)]; exact b2 l (by omega)
/-- the loop of ofAbsolutes -/
theorem s_oa_a {L m N : Nat} {S3 Q3 : Nat → Prop} (h3Q : S3 Q) (h3R : S3 R) (g3Q : Q3 qQ) (g3R : Q3 qR) (V : dv_S h dv Q R S) (hQR : Q ≠ R) (hQS : Q ≠ S) (hSR : S ≠ R) (qQR : qQ ≠ qR) (qQS : qQ ≠ qS) (qSR : qS ≠ qR) (C : cn_D D (m + 1)) (hf2 : 2147483648 ≤ D m) (hL : L + m ≤ 257) {x66 x67 : Int32} {xt : Nat → Int32 → Int32 → ah_H → Prop} {K : ah_H → Prop}
    (hx : ∀ (hh : ah_H) (dq e : Nat → Nat), fr_S S3 Q3 h hh → wh_S hh Q qQ 0 false dq → (∀ l, dq l < 4294967296) → (∀ l, L ≤ l → dq l = 0) → wh_S hh R qR nr false e → (∀ l, e l < 4294967296) → (∀ l, m + 1 ≤ l → e l = 0) → wh_S hh S qS (m + 1) ngs D → N = dg_v 4294967296 dq L * dg_v 4294967296 D (m + 1) + dg_v 4294967296 e (m + 1) → dg_v 4294967296 e (m + 1) < dg_v 4294967296 D (m + 1) → xt dv x66 x67 hh) :
    ∀ (j : Nat) (hh : ah_H) (dq e : Nat → Nat), j ≤ L → fr_S S3 Q3 h hh → wh_S hh Q qQ 0 false dq → (∀ l, dq l < 4294967296) → (∀ l, L ≤ l → dq l = 0) → wh_S hh R qR nr false e → (∀ l, e l < 4294967296) → (∀ l, j + (m + 1) ≤ l → e l = 0) → wh_S hh S qS (m + 1) ngs D → N = du_v 4294967296 dq j L * 4294967296 ^ j * dg_v 4294967296 D (m + 1) + dg_v 4294967296 e (j + (m + 1)) → dg_v 4294967296 (fun i => e (j + i)) (m + 1) < dg_v 4294967296 D (m + 1) → lp_DV_ofAbsolutes_83 xt K (j + 1) dv x66 x67 (nI j - 1) hh := by
  intro j
  induction j with
  | zero =>
    intro hh dq e _ h1 h2 h3 h4 h5 h6 h7 h8 h9 h10
    rw [lp_DV_ofAbsolutes_83]
    refine ⟨fun _ => hx hh dq e h1 h2 h3 h4 h5 h6 (fun l hl => h7 l (by omega)) h8 ?_ ?_, fun hc => absurd (by decide) hc⟩
    · rw [du_0, Nat.pow_zero, Nat.mul_one, Nat.zero_add] at h9
      exact h9
    · have : (fun i => e (0 + i)) = e := funext fun i => by rw [Nat.zero_add]
      rw [this] at h10
      exact h10
  | succ j ih =>
    intro hh dq e hjL h1 h2 h3 h4 h5 h6 h7 h8 h9 h10
    have V1 : dv_S hh dv Q R S := by
      unfold dv_S at *
      rw [h1.1, h1.2.2.1]; exact V
    have ei : nI (j + 1) - (1 : Int32) = nI j := nI_m1 (n := j + 1) (by omega)
    rw [ei, lp_DV_ofAbsolutes_83]
    refine ⟨fun hc => absurd hc (nI_pos (by omega)), fun _ => ⟨V1.1, Q, V1.2.1, h2.1.1, qQ, h2.1.2.1, ?_⟩⟩
    refine s_nextLimb V1 h5 h6 (fun i hi => h7 i (by omega)) h8 C hf2 hSR qSR (by omega) h10 (fun q r e' b1 b2 b3 b4 b5 b6 _ => ?_)
    have Q1 : wh_S (wd_S hh R qR nr false e') Q qQ 0 false dq := wh_ot h2 hQR qQR
    refine ⟨h2.1.2.2.1, ?_, fun h84 e84 v89 e89 => ?_⟩
    · rw [show ah_N (wd_S hh R qR nr false e') qQ = 258 from h2.1.2.2.2]
      exact vp_in_nI (by omega) (by decide)
    rw [nI_clamp (by omega), wh_up Q1] at e84
    rw [e89, ← Int32.sub_eq_add_neg, e84]
    have hbv : dg_v 4294967296 D (m + 1) < 4294967296 ^ (m + 1) := dg_lt (fun i _ => C.1 i)
    have hz : e' (j + (m + 1)) = 0 := by
      apply Classical.byContradiction
      intro z
      have h11 : 4294967296 ^ (m + 1) ≤ dg_v 4294967296 (fun i => e' (j + i)) (m + 1 + 1) := dg_ge z
      rw [show m + 1 + 1 = m + 2 from rfl, b6] at h11
      omega
    have hr : dg_v 4294967296 (fun i => e' (j + i)) (m + 1) = r := by
      rw [← b6]
      show _ = dg_v 4294967296 (fun i => e' (j + i)) (m + 1) + e' (j + (m + 1)) * _
      rw [hz, Nat.zero_mul]
      exact (Nat.add_zero _).symm
    refine ih _ (dg_u dq j q) e' (by omega) (fr_tr h1 (fr_tr (fr_wd h3R g3R) (fr_wd h3Q g3Q))) (wh_wd (wd_q h2.1)) (fun l => ?_) (fun l hl => ?_) (wh_ot (wh_wd h5.1) hQR.symm qQR.symm) b2 (fun l hl => ?_) (wh_ot (wh_ot h8 hSR qSR) hQS.symm qQS.symm) ?_ (by rw [hr]; exact b5)
    · by_cases z : l = j
      · rw [z, dg_us]; exact b1
      · rw [dg_un z]; exact h3 l
    · rw [dg_un (by omega)]; exact h4 l hl
    · by_cases z : l = j + (m + 1)
      · rw [z]; exact hz
      · rw [b3 l (by omega)]; exact h7 l (by omega)
    · have e1 : dg_v 4294967296 e (j + 1 + (m + 1)) = dg_v 4294967296 e j + 4294967296 ^ j * dg_v 4294967296 (fun i => e (j + i)) (m + 2) := by
        rw [show j + 1 + (m + 1) = j + (m + 2) by omega]; exact dg_sp j (m + 2)
      have e2 : dg_v 4294967296 e' (j + (m + 1)) = dg_v 4294967296 e' j + 4294967296 ^ j * r := by
        rw [dg_sp j (m + 1), hr]
      have e3 : dg_v 4294967296 e' j = dg_v 4294967296 e j := dg_cg (fun l hl => b3 l (Or.inl hl))
      have e4 : du_v 4294967296 (dg_u dq j q) j L = q + 4294967296 * du_v 4294967296 dq (j + 1) L := by
        rw [du_s (by omega), dg_us, du_cg (d := dg_u dq j q) (e := dq) (i := j + 1) (fun l h1 _ => dg_un (by omega))]
      rw [h9, e1, e2, e3, e4, b4, p_s]
      generalize dg_v 4294967296 D (m + 1) = v
      generalize du_v 4294967296 dq (j + 1) L = X
      generalize dg_v 4294967296 e j = Y
      generalize 4294967296 ^ j = Z
      rw [Nat.add_mul, Nat.add_mul, Nat.mul_add, show X * (4294967296 * Z) * v = 4294967296 * X * Z * v by ac_rfl, show Z * (q * v) = q * Z * v by ac_rfl]
      omega
end DV4
