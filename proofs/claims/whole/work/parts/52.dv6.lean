section DV6
variable {h : ah_H} {dv Q R S qQ qR qS : Nat}
/-- the Whole w, limbs at q, holds z -/
def ho_W (h : ah_H) (w q : Nat) (z : Int) : Prop := ∃ n g d, wh_S h w q n g d ∧ cn_D d n ∧ (g = true → n ≠ 0) ∧ z = sg_Z g (dg_v 4294967296 d n)
/-- division downwards: the rest has the divisor's side -/
def fl_D (a b q r : Int) : Prop := a = q * b + r ∧ ((0 ≤ r ∧ r < b) ∨ (b < r ∧ r ≤ 0))
theorem fr_dv {S3 Q3 : Nat → Prop} {h' : ah_H} (f : fr_S S3 Q3 h h') (V : dv_S h dv Q R S) : dv_S h' dv Q R S := by
  unfold dv_S at *
  rw [f.1, f.2.2.1]; exact V
theorem fl_k {A B q0 r0 : Nat} {ga gb : Bool} (hB : 0 < B) (hA : A = q0 * B + r0) (hr : r0 < B) : (ga = gb → fl_D (sg_Z ga A) (sg_Z gb B) (sg_Z false q0) (sg_Z gb r0)) ∧ (ga ≠ gb → r0 = 0 → fl_D (sg_Z ga A) (sg_Z gb B) (sg_Z true q0) (sg_Z gb r0)) ∧ (ga ≠ gb → r0 ≠ 0 → fl_D (sg_Z ga A) (sg_Z gb B) (sg_Z true (q0 + 1)) (sg_Z gb (B - r0))) := by
  have hA' : (A : Int) = (q0 : Int) * (B : Int) + (r0 : Int) := by rw [hA]; push_cast; rfl
  have e1 : ((q0 : Int) + 1) * (B : Int) = (q0 : Int) * (B : Int) + (B : Int) := by rw [Int.add_mul, Int.one_mul]
  have e2 : ((B - r0 : Nat) : Int) = (B : Int) - (r0 : Int) := by omega
  have e3 : ((q0 + 1 : Nat) : Int) = (q0 : Int) + 1 := by omega
  unfold fl_D
  refine ⟨fun hg => ?_, fun hg h0 => ?_, fun hg h0 => ?_⟩
  · subst hg
    cases ga <;> simp only [sg_Z, Bool.false_eq_true, if_false, if_true, Int.mul_neg, Int.neg_mul, Int.neg_neg] <;> constructor <;> omega
  · cases ga <;> cases gb <;> simp only [sg_Z, Bool.false_eq_true, if_false, if_true, Int.mul_neg, Int.neg_mul, Int.neg_neg] <;> first | (exact absurd rfl hg) | (constructor <;> omega)
  · cases ga <;> cases gb <;> simp only [sg_Z, Bool.false_eq_true, if_false, if_true, Int.mul_neg, Int.neg_mul, Int.neg_neg, e2, e3, e1] <;> first | (exact absurd rfl hg) | (constructor <;> omega)
theorem ms_g {n : Nat} {b : Bool} : (b && decide (0 < n)) = true → n ≠ 0 := fun z => by
  have := (Bool.and_eq_true_iff.mp z).2
  have := of_decide_eq_true this
  omega
/-- downwards(a, b) -/
theorem s_downwards (W : dw_S h dv Q qQ R qR S qS) {a qa na b qb nb : Nat} {nga ngb : Bool} {da db : Nat → Nat} (A : wh_S h a qa na nga da) (CA : cn_D da na) (hna : na ≤ 257) (Bw : wh_S h b qb nb ngb db) (CB : cn_D db nb) (hb : nb ≠ 0) (hnb : nb ≤ 257) (ha1 : ¬ d3_S Q R S a) (ha2 : ¬ d3_S qQ qR qS qa) (hb1 : ¬ d3_S Q R S b) (hb2 : ¬ d3_S qQ qR qS qb) {K : ah_H → Prop}
    (hK : ∀ (h' : ah_H) (zq zr : Int), fr_S (d3_S Q R S) (d3_S qQ qR qS) h h' → ho_W h' Q qQ zq → ho_W h' R qR zr → cw_W h' S qS → fl_D (sg_Z nga (dg_v 4294967296 da na)) (sg_Z ngb (dg_v 4294967296 db nb)) zq zr → K h') : w_DV_downwards dv a b h K := by
  have hBV : 0 < dg_v 4294967296 db nb := by
    have h1 := cn_ge CB (by omega)
    have : 0 < (4294967296 : Nat) ^ (nb - 1) := Nat.pow_pos (by decide)
    omega
  have V := W.1
  obtain ⟨hQR, hQS, hSR, qQR, qQS, qSR⟩ := W.2.1
  have bQ : b ≠ Q := fun z => hb1 (Or.inl z)
  have bR : b ≠ R := fun z => hb1 (Or.inr (Or.inl z))
  have bqQ : qb ≠ qQ := fun z => hb2 (Or.inl z)
  have bqR : qb ≠ qR := fun z => hb2 (Or.inr (Or.inl z))
  have fin : ∀ (h5 : ah_H) (n1 n2 : Nat) (d1 d2 : Nat → Nat) (bl : Bool), fr_S (d3_S Q R S) (d3_S qQ qR qS) h h5 → wh_S h5 Q qQ n1 false d1 → cn_D d1 n1 → wh_S h5 R qR n2 false d2 → cn_D d2 n2 → cw_W h5 S qS → fl_D (sg_Z nga (dg_v 4294967296 da na)) (sg_Z ngb (dg_v 4294967296 db nb)) (sg_Z bl (dg_v 4294967296 d1 n1)) (sg_Z ngb (dg_v 4294967296 d2 n2)) → bk_DV_downwards_56 K dv b (bi_n bl) h5 := by
    intro h5 n1 n2 d1 d2 bl f1 Q1 C1 R1 C2 Sc hfl
    have V5 := fr_dv f1 V
    have B5 := fr_wh f1 Bw hb1 hb2
    refine ⟨V5.1, Q, V5.2.1, Q1.1.1, s_markSign Q1 C1.2.2.2 bl (fun _ => ⟨R, V5.2.2.1, B5.1.1, R1.1.1, ?_⟩)⟩
    rw [show ah_I (wd_S h5 Q qQ n1 (bl && decide (0 < n1)) d1) 1 b = bi_n ngb from (ws_Ia bQ).trans B5.2.2.1]
    refine s_markSign (wh_ot R1 hQR.symm qQR.symm) C2.2.2.2 ngb (fun _ => ?_)
    obtain ⟨n3, g3, d3, Sw, C3⟩ := Sc
    refine hK _ _ _ (fr_tr f1 (fr_tr (fr_wd (Or.inl rfl) (Or.inl rfl)) (fr_wd (Or.inr (Or.inl rfl)) (Or.inr (Or.inl rfl))))) ⟨n1, _, d1, wh_ot (wh_wd Q1.1) hQR qQR, C1, ms_g, rfl⟩ ⟨n2, _, d2, wh_wd (wd_q R1.1), C2, ms_g, rfl⟩ ⟨n3, g3, d3, wh_ot (wh_ot Sw hQS.symm qQS.symm) hSR qSR, C3⟩ ?_
    rw [sg_b (cn_0 C1), sg_b (cn_0 C2)]
    exact hfl
  unfold w_DV_downwards
  refine ⟨V.1, s_ofAbs W A CA hna Bw CB hb hnb ha1 ha2 hb1 hb2 (fun h5 n1 n2 d1 d2 f1 Q1 C1 hn1 v1 R1 C2 v2 Sc _ => ?_)⟩
  have A5 := fr_wh f1 A ha1 ha2
  have B5 := fr_wh f1 Bw hb1 hb2
  have V5 := fr_dv f1 V
  have hdm := Nat.div_add_mod (dg_v 4294967296 da na) (dg_v 4294967296 db nb)
  have hml : dg_v 4294967296 da na % dg_v 4294967296 db nb < dg_v 4294967296 db nb := Nat.mod_lt _ hBV
  rw [← v1, ← v2, Nat.mul_comm] at hdm
  rw [← v2] at hml
  obtain ⟨k1, k2, k3⟩ := fl_k (ga := nga) (gb := ngb) hBV hdm.symm hml
  refine ⟨A5.1.1, B5.1.1, fun he => ?_, fun hne => ?_⟩
  · rw [A5.2.2.1, B5.2.2.1, bi_eq] at he
    exact ⟨fun _ => fin h5 n1 n2 d1 d2 false f1 Q1 C1 R1 C2 Sc (k1 he), fun hc => absurd rfl hc⟩
  · rw [A5.2.2.1, B5.2.2.1, bi_ne] at hne
    refine ⟨fun hc => absurd hc (by decide), fun _ => ⟨V5.1, R, V5.2.2.1, R1.1.1, fun hz => ?_, fun hz => ?_⟩⟩
    · have h0 : n2 = 0 := by
        rcases Nat.eq_zero_or_pos n2 with e | e
        · exact e
        · exact absurd (by rw [← R1.2.1]; exact hz) (nI_nle e (by have := C2.2.2.2; omega))
      exact fin h5 n1 n2 d1 d2 true f1 Q1 C1 R1 C2 Sc (k2 hne ((cn_0 C2).mpr h0))
    · have h0 : n2 ≠ 0 := fun z => hz (by rw [R1.2.1, z]; decide)
      refine ⟨Q, V5.2.1, Q1.1.1, s_addOne Q1 C1 (by omega) (fun n1' d1' C1' v1' _ => ⟨R, V5.2.2.1, R, V5.2.2.1, ?_⟩)⟩
      have R6 : wh_S (wd_S h5 Q qQ n1' false d1') R qR n2 false d2 := wh_ot R1 hQR.symm qQR.symm
      have B6 : wh_S (wd_S h5 Q qQ n1' false d1') b qb nb ngb db := wh_ot B5 bQ bqQ
      refine s_diff R6 C2.2.2.2 C2.2.1 B6 CB R6 C2 (by omega) (Or.inr ⟨bR, bqR⟩) (Or.inl ⟨rfl, rfl, rfl⟩) (fun n2' d2' C2' v2' _ => ?_)
      obtain ⟨n3, g3, d3, Sw, C3⟩ := Sc
      refine fin _ n1' n2' d1' d2' true (fr_tr f1 (fr_tr (fr_wd (Or.inl rfl) (Or.inl rfl)) (fr_wd (Or.inr (Or.inl rfl)) (Or.inr (Or.inl rfl))))) (wh_ot (wh_wd Q1.1) hQR qQR) C1' (wh_wd R6.1) C2' ⟨n3, g3, d3, wh_ot (wh_ot Sw hQS.symm qQS.symm) hSR qSR, C3⟩ ?_
      rw [v1', v2']
      exact k3 hne (fun z => h0 ((cn_0 C2).mp z))
end DV6
