section DV5
variable {h : ah_H} {dv Q R S qQ qR qS : Nat}
/-- a Whole in its one form -/
def cw_W (h : ah_H) (w q : Nat) : Prop := ∃ n g d, wh_S h w q n g d ∧ cn_D d n
/-- the Division with its Wholes, all in their form -/
def dw_S (h : ah_H) (dv Q qQ R qR S qS : Nat) : Prop := dv_S h dv Q R S ∧ (Q ≠ R ∧ Q ≠ S ∧ S ≠ R ∧ qQ ≠ qR ∧ qQ ≠ qS ∧ qS ≠ qR) ∧ cw_W h Q qQ ∧ cw_W h R qR ∧ cw_W h S qS
def d3_S (Q R S : Nat) : Nat → Prop := fun x => x = Q ∨ x = R ∨ x = S
theorem it_sub {a b : Nat} (ha : a < 2 ^ 30) (hb : b < 2 ^ 30) : (if nI a - nI b < (0 : Int32) then (0 : Int32) else nI a - nI b) = nI (a - b) := by
  by_cases hw : b ≤ a
  · rw [nI_sub hw, if_neg (nI_pos (by omega))]
  · rw [if_pos (nI_sbn (by omega) (by omega)), show a - b = 0 by omega]; rfl
theorem bl_pos {v c : Nat} (hv : 0 < v) (h : bl_N v c) : 0 < c := by
  rcases Nat.eq_zero_or_pos c with z | z
  · rw [z] at h
    have := h.1
    omega
  · exact z
/-- the divisor scaled: as many limbs, the highest bit set -/
theorem sc_k {db D : Nat → Nat} {k ns c : Nat} (CB : cn_D db (k + 1)) (hc : bl_N (db k) c) (hc32 : c ≤ 32) (C : cn_D D ns) (hv : dg_v 4294967296 D ns = dg_v 4294967296 db (k + 1) * 2 ^ (32 - c)) : ns = k + 1 ∧ 2147483648 ≤ D k := by
  have hbk : db k ≠ 0 := by
    rcases CB.2.2.1 with e | e
    · omega
    · exact e
  have hcp := bl_pos (by omega) hc
  have h1 := tp_0 (m := k) CB.1
  have hP : 0 < (4294967296 : Nat) ^ k := Nat.pow_pos (by decide)
  have h2 : 2 ^ (c - 1) ≤ db k := by
    rcases hc.2 with e | e
    · omega
    · exact e
  have e32 : 2 ^ c * 2 ^ (32 - c) = 4294967296 := by rw [← Nat.pow_add, show c + (32 - c) = 32 by omega]
  have e31 : 2 ^ (c - 1) * 2 ^ (32 - c) = 2147483648 := by rw [← Nat.pow_add, show c - 1 + (32 - c) = 31 by omega]
  have hlo : 2147483648 * 4294967296 ^ k ≤ dg_v 4294967296 D ns := by
    have g1 : 2 ^ (c - 1) * 4294967296 ^ k * 2 ^ (32 - c) ≤ dg_v 4294967296 db (k + 1) * 2 ^ (32 - c) := Nat.mul_le_mul_right _ (Nat.le_trans (Nat.mul_le_mul_right _ h2) h1.1)
    rw [Nat.mul_right_comm, e31] at g1
    rw [hv]
    exact g1
  have hhi : dg_v 4294967296 D ns < 4294967296 * 4294967296 ^ k := by
    have g1 : (db k + 1) * 4294967296 ^ k ≤ 2 ^ c * 4294967296 ^ k := Nat.mul_le_mul_right _ hc.1
    have g2 : dg_v 4294967296 db (k + 1) * 2 ^ (32 - c) < 2 ^ c * 4294967296 ^ k * 2 ^ (32 - c) := Nat.mul_lt_mul_of_pos_right (Nat.lt_of_lt_of_le h1.2 g1) (Nat.two_pow_pos _)
    rw [Nat.mul_right_comm, e32] at g2
    rw [hv]
    exact g2
  have hns : ns = k + 1 := by
    have g1 := cn_lt C
    have h3 : ¬ ns ≤ k := fun z => by
      have : (4294967296 : Nat) ^ ns ≤ 4294967296 ^ k := Nat.pow_le_pow_right (by decide) z
      have : 1 * 4294967296 ^ k ≤ 2147483648 * 4294967296 ^ k := Nat.mul_le_mul_right _ (by decide)
      omega
    have h4 : ¬ k + 1 < ns := fun z => by
      have g2 := cn_ge C (by omega)
      have : (4294967296 : Nat) ^ (k + 1) ≤ 4294967296 ^ (ns - 1) := Nat.pow_le_pow_right (by decide) (by omega)
      have := p_s k
      omega
    omega
  refine ⟨hns, ?_⟩
  subst hns
  have h5 := (tp_0 (m := k) C.1).2
  have h6 : 2147483648 * 4294967296 ^ k < (D k + 1) * 4294967296 ^ k := Nat.lt_of_le_of_lt hlo h5
  have := Nat.lt_of_mul_lt_mul_right h6
  omega
theorem fin_k {A V q r s : Nat} (hV : 0 < V) (h : A * 2 ^ s = q * (V * 2 ^ s) + r) (hr : r < V * 2 ^ s) : q = A / V ∧ r / 2 ^ s = A % V := by
  have hp := Nat.two_pow_pos s
  have h1 : q * V ≤ A := by
    apply Nat.le_of_mul_le_mul_right _ hp
    rw [Nat.mul_assoc]; omega
  have e1 : r = (A - q * V) * 2 ^ s := by rw [Nat.sub_mul, Nat.mul_assoc]; omega
  have h2 : A - q * V < V := by
    rw [e1] at hr
    exact Nat.lt_of_mul_lt_mul_right hr
  have e2 : q = A / V := by
    symm
    apply Nat.div_eq_of_lt_le h1
    rw [Nat.add_mul]; omega
  refine ⟨e2, ?_⟩
  rw [e1, Nat.mul_div_cancel _ hp]
  have := Nat.div_add_mod A V
  rw [← e2, Nat.mul_comm V q] at this
  omega
theorem cn_szl {d : Nat → Nat} {n L : Nat} (C : cn_D d n) (h : dg_v 4294967296 d n < 4294967296 ^ L) : n ≤ L := by
  apply Nat.le_of_not_lt
  intro h1
  have h2 := cn_ge C (by omega)
  have h3 : (4294967296 : Nat) ^ L ≤ 4294967296 ^ (n - 1) := Nat.pow_le_pow_right (by decide) (by omega)
  omega
theorem cn_szg {d : Nat → Nat} {n L : Nat} (C : cn_D d n) (h : 4294967296 ^ L ≤ dg_v 4294967296 d n) : L + 1 ≤ n := by
  apply Nat.le_of_not_lt
  intro h1
  have h2 := cn_lt C
  have h3 : (4294967296 : Nat) ^ n ≤ 4294967296 ^ L := Nat.pow_le_pow_right (by decide) (by omega)
  omega
/-- ofAbsolutes(a, b) -/
theorem s_ofAbs (W : dw_S h dv Q qQ R qR S qS) {a qa na b qb nb : Nat} {nga ngb : Bool} {da db : Nat → Nat} (A : wh_S h a qa na nga da) (CA : cn_D da na) (hna : na ≤ 257) (Bw : wh_S h b qb nb ngb db) (CB : cn_D db nb) (hb : nb ≠ 0) (hnb : nb ≤ 257) (ha1 : ¬ d3_S Q R S a) (ha2 : ¬ d3_S qQ qR qS qa) (hb1 : ¬ d3_S Q R S b) (hb2 : ¬ d3_S qQ qR qS qb) {K : ah_H → Prop}
    (hK : ∀ (h' : ah_H) (n1 n2 : Nat) (d1 d2 : Nat → Nat), fr_S (d3_S Q R S) (d3_S qQ qR qS) h h' → wh_S h' Q qQ n1 false d1 → cn_D d1 n1 → n1 ≤ na + 1 - nb → dg_v 4294967296 d1 n1 = dg_v 4294967296 da na / dg_v 4294967296 db nb → wh_S h' R qR n2 false d2 → cn_D d2 n2 → dg_v 4294967296 d2 n2 = dg_v 4294967296 da na % dg_v 4294967296 db nb → cw_W h' S qS → K h') : w_DV_ofAbsolutes dv a b h K := by
  obtain ⟨V, ⟨hQR, hQS, hSR, qQR, qQS, qSR⟩, ⟨n1, g1, d1, Qw, C1⟩, ⟨n2, g2, d2, Rw, C2⟩, ⟨n3, g3, d3, Sw, C3⟩⟩ := W
  obtain ⟨k, rfl⟩ : ∃ k, nb = k + 1 := ⟨nb - 1, by omega⟩
  have aQ : a ≠ Q := fun z => ha1 (Or.inl z)
  have aR : a ≠ R := fun z => ha1 (Or.inr (Or.inl z))
  have aS : a ≠ S := fun z => ha1 (Or.inr (Or.inr z))
  have aqQ : qa ≠ qQ := fun z => ha2 (Or.inl z)
  have aqR : qa ≠ qR := fun z => ha2 (Or.inr (Or.inl z))
  have aqS : qa ≠ qS := fun z => ha2 (Or.inr (Or.inr z))
  have bQ : b ≠ Q := fun z => hb1 (Or.inl z)
  have bR : b ≠ R := fun z => hb1 (Or.inr (Or.inl z))
  have bS : b ≠ S := fun z => hb1 (Or.inr (Or.inr z))
  have bqQ : qb ≠ qQ := fun z => hb2 (Or.inl z)
  have bqR : qb ≠ qR := fun z => hb2 (Or.inr (Or.inl z))
  have bqS : qb ≠ qS := fun z => hb2 (Or.inr (Or.inr z))
  have bd63 : ∀ {d : Nat → Nat} {n : Nat}, cn_D d n → ∀ i, d i < 2 ^ 63 := fun C i => Nat.lt_trans (C.1 i) (by decide)
  have z0 : cn_D (fun _ => 0) 0 := ⟨fun _ => (by decide : (0 : Nat) < 4294967296), fun _ _ => rfl, Or.inl rfl, by decide⟩
  unfold w_DV_ofAbsolutes
  refine ⟨V.1, Q, V.2.1, Qw.1.1, s_clear Qw C1.2.2.2 (bd63 C1) C1.2.1 (fun _ => ⟨R, V.2.2.1, Rw.1.1, s_clear (wh_ot Rw hQR.symm qQR.symm) C2.2.2.2 (bd63 C2) C2.2.1 (fun _ => ⟨Bw.1.1, ?_⟩)⟩)⟩
  generalize h8 : wd_S h Q qQ 0 false (fun _ => 0) = hh1
  have fr1 : fr_S (d3_S Q R S) (d3_S qQ qR qS) h hh1 := by rw [← h8]; exact fr_wd (Or.inl rfl) (Or.inl rfl)
  have Qw1 : wh_S hh1 Q qQ 0 false (fun _ => 0) := by rw [← h8]; exact wh_wd Qw.1
  have Rq1 : wq_S hh1 R qR := fr_wq fr1 Rw.1
  generalize h15 : wd_S hh1 R qR 0 false (fun _ => 0) = hh2
  have fr2 : fr_S (d3_S Q R S) (d3_S qQ qR qS) h hh2 := by rw [← h15]; exact fr_tr fr1 (fr_wd (Or.inr (Or.inl rfl)) (Or.inr (Or.inl rfl)))
  have Qw2 : wh_S hh2 Q qQ 0 false (fun _ => 0) := by rw [← h15]; exact wh_ot Qw1 hQR qQR
  have Rw2 : wh_S hh2 R qR 0 false (fun _ => 0) := by rw [← h15]; exact wh_wd Rq1
  have A2 := fr_wh fr2 A ha1 ha2
  have B2 := fr_wh fr2 Bw hb1 hb2
  have Sw2 : wh_S hh2 S qS n3 g3 d3 := by
    rw [← h15]
    refine wh_ot ?_ hSR qSR
    rw [← h8]
    exact wh_ot Sw hQS.symm qQS.symm
  have V2 : dv_S hh2 dv Q R S := by
    unfold dv_S at *
    rw [fr2.1, fr2.2.2.1]; exact V
  have eb1 : ah_I hh2 0 b - (1 : Int32) = nI k := by rw [B2.2.1]; exact nI_m1 (n := k + 1) (by omega)
  refine ⟨fun hz => ?_, fun _ => ⟨A2.1.1, fun _ => ⟨qb, B2.1.2.1, B2.1.2.2.1, ?_, ?_⟩, fun hz => absurd ?_ hz⟩⟩
  · rw [B2.2.1] at hz
    exact absurd hz (nI_ne0 (by omega) (by omega))
  · rw [eb1, B2.1.2.2.2]; exact vp_in_nI (by omega) (by decide)
  · rw [eb1, nI_clamp (by omega), B2.2.2.2]
    obtain ⟨c, hc32, hc⟩ := bl_ex 32 (db k) (CB.1 k)
    have hbk : db k ≠ 0 := by
      rcases CB.2.2.1 with e | e
      · omega
      · exact e
    have hcp := bl_pos (by omega) hc
    refine s_bitsOf (CB.1 k) hc (fun _ v38 e38 => ?_)
    rw [show (32 : Int32) = nI 32 from rfl, nI_sub hc32] at e38
    rw [e38]
    have hs0 : (32 - c) / 32 = 0 := by omega
    refine ⟨R, V2.2.2.1, Rw2.1.1, s_shiftUp Rw2 z0 A2 CA ⟨aR, aqR⟩ (by omega) (by omega) (fun nr er Cr hvr hnr _ => ?_)⟩
    generalize h42 : wd_S hh2 R qR nr false er = hh3
    have fr3 : fr_S (d3_S Q R S) (d3_S qQ qR qS) h hh3 := by rw [← h42]; exact fr_tr fr2 (fr_wd (Or.inr (Or.inl rfl)) (Or.inr (Or.inl rfl)))
    have Qw3 : wh_S hh3 Q qQ 0 false (fun _ => 0) := by rw [← h42]; exact wh_ot Qw2 hQR qQR
    have Rw3 : wh_S hh3 R qR nr false er := by rw [← h42]; exact wh_wd Rw2.1
    have Sw3 : wh_S hh3 S qS n3 g3 d3 := by rw [← h42]; exact wh_ot Sw2 hSR qSR
    have A3 := fr_wh fr3 A ha1 ha2
    have B3 := fr_wh fr3 Bw hb1 hb2
    have V3 : dv_S hh3 dv Q R S := by
      unfold dv_S at *
      rw [fr3.1, fr3.2.2.1]; exact V
    refine ⟨S, V3.2.2.2, Sw3.1.1, s_shiftUp Sw3 C3 B3 CB ⟨bS, bqS⟩ (by omega) (by omega) (fun ns D CD hvD _ _ v64 e64 => ?_)⟩
    obtain ⟨hns, hf2⟩ := sc_k CB hc hc32 CD hvD
    subst hns
    generalize h54 : wd_S hh3 S qS (k + 1) g3 D = hh4
    rw [h54] at e64
    have fr4 : fr_S (d3_S Q R S) (d3_S qQ qR qS) h hh4 := by rw [← h54]; exact fr_tr fr3 (fr_wd (Or.inr (Or.inr rfl)) (Or.inr (Or.inr rfl)))
    have Qw4 : wh_S hh4 Q qQ 0 false (fun _ => 0) := by rw [← h54]; exact wh_ot Qw3 hQS qQS
    have Rw4 : wh_S hh4 R qR nr false er := by rw [← h54]; exact wh_ot Rw3 hSR.symm qSR.symm
    have Sw4 : wh_S hh4 S qS (k + 1) g3 D := by rw [← h54]; exact wh_wd Sw3.1
    have A4 := fr_wh fr4 A ha1 ha2
    have B4 := fr_wh fr4 Bw hb1 hb2
    rw [A4.2.1, B4.2.1] at e64
    have hBV : 0 < dg_v 4294967296 db (k + 1) := by
      have := cn_ge CB (by omega)
      have : 0 < (4294967296 : Nat) ^ (k + 1 - 1) := Nat.pow_pos (by decide)
      omega
    -- what comes behind the loop
    have fin : ∀ (hh : ah_H) (dq e : Nat → Nat), fr_S (d3_S Q R S) (d3_S qQ qR qS) h hh → wh_S hh Q qQ 0 false dq → (∀ l, dq l < 4294967296) → (∀ l, na + 1 - (k + 1) ≤ l → dq l = 0) → wh_S hh R qR nr false e → cw_D e nr → wh_S hh S qS (k + 1) g3 D → dg_v 4294967296 da na * 2 ^ (32 - c) = dg_v 4294967296 dq (na + 1 - (k + 1)) * dg_v 4294967296 D (k + 1) + dg_v 4294967296 e nr → dg_v 4294967296 e nr < dg_v 4294967296 D (k + 1) → ah_T hh dv = 2 ∧ ∃ q95, ah_R hh 2 dv = some q95 ∧ ah_T hh q95 = 3 ∧ w_WH_settle q95 (if (v64 + (1 : Int32)) < (0 : Int32) then (0 : Int32) else (v64 + (1 : Int32))) hh (fun h98 => ah_m hh h98 → ∃ q102, ah_R h98 3 dv = some q102 ∧ ∃ q104, ah_R h98 3 dv = some q104 ∧ ah_T h98 q102 = 3 ∧ w_WH_becomeShiftedDown q102 q104 (nI (32 - c)) h98 (fun h107 => ah_m h98 h107 → K h107)) := by
      intro hh dq e f1 f2 f3 f4 f5 f6 f7 f8 f9
      have V5 : dv_S hh dv Q R S := by
        unfold dv_S at *
        rw [f1.1, f1.2.2.1]; exact V
      have ev : v64 + (1 : Int32) = nI (na + 1) - nI (k + 1) := by
        rw [e64, ← nI_1 na]
        rw [Int32.sub_eq_add_neg, Int32.sub_eq_add_neg, Int32.add_assoc, Int32.add_assoc, Int32.add_comm (-nI (k + 1))]
      rw [ev, it_sub (by omega) (by omega)]
      refine ⟨V5.1, Q, V5.2.1, f2.1.1, ?_⟩
      have eq2 := wh_eq f2
      rw [eq2]
      refine s_fin (dt := fun _ => 0) f2.1 (by decide) (fun _ _ => rfl) (by omega) (fun j _ => f3 j) f4 (fun n' d' C' hv' _ => ?_)
      rw [hvD] at f8 f9
      obtain ⟨r1, r2⟩ := fin_k hBV f8 f9
      have R6 : wh_S (wd_S hh Q qQ n' false d') R qR nr false e := wh_ot f5 hQR.symm qQR.symm
      refine ⟨R, V5.2.2.1, R, V5.2.2.1, R6.1.1, s_shiftDown R6 f6 R6 f6 (Or.inl ⟨rfl, rfl, rfl⟩) (by omega) (fun n'' d'' C'' hv'' _ => ?_)⟩
      refine hK _ n' n'' d' d'' (fr_tr f1 (fr_tr (fr_wd (Or.inl rfl) (Or.inl rfl)) (fr_wd (Or.inr (Or.inl rfl)) (Or.inr (Or.inl rfl))))) (wh_ot (wh_wd f2.1) hQR qQR) C' ?_ (by rw [hv', r1]) (wh_wd R6.1) C'' (by rw [hv'', r2]) ⟨k + 1, g3, D, wh_ot (wh_ot f7 hQS.symm qQS.symm) hSR qSR, CD⟩
      apply cn_szl C'
      rw [hv']
      exact dg_lt (fun l _ => f3 l)
    by_cases hlt : na < k + 1
    · refine ⟨0 + 1, ?_⟩
      rw [lp_DV_ofAbsolutes_83]
      refine ⟨fun _ => fin hh4 (fun _ => 0) er fr4 Qw4 (fun _ => (by decide : (0 : Nat) < 4294967296)) (fun _ _ => rfl) Rw4 (cn_cw Cr) Sw4 ?_ ?_, fun hc => absurd (by rw [e64]; exact nI_sbn hlt (by omega)) hc⟩
      · rw [dg_0 (fun _ _ => rfl), Nat.zero_mul, Nat.zero_add, hvr]
      · rw [hvr, hvD]
        exact Nat.mul_lt_mul_of_pos_right (cn_sz CA CB hlt) (Nat.two_pow_pos _)
    · have hnr2 : k + 1 ≤ nr := by
        have h1 := cn_ge CA (by omega)
        have h2 : dg_v 4294967296 da na * 1 ≤ dg_v 4294967296 da na * 2 ^ (32 - c) := Nat.mul_le_mul_left _ (Nat.two_pow_pos _)
        have h3 := cn_szg Cr (L := na - 1) (by rw [hvr]; omega)
        omega
      have e64' : v64 = nI (na + 1 - (k + 1)) - 1 := by
        rw [e64, nI_sub (by omega), nI_m1 (by omega)]
        congr 1
        omega
      have hsum : na + 1 - (k + 1) + (k + 1) = na + 1 := by omega
      have hNv : dg_v 4294967296 er (na + 1) = dg_v 4294967296 da na * 2 ^ (32 - c) := by
        rw [← hvr]; exact dg_z (by omega) (fun i h1 _ => Cr.2.1 i h1)
      have key := s_oa_a (h := h) (nr := nr) (ngs := g3) (K := K) (L := na + 1 - (k + 1)) (N := dg_v 4294967296 da na * 2 ^ (32 - c)) (x66 := nI (32 - c)) (x67 := v64) (S3 := d3_S Q R S) (Q3 := d3_S qQ qR qS) (xt := fun (x90 : Nat) (x91 : Int32) (x92 : Int32) h93 => ah_T h93 x90 = 2 ∧ ∃ q95, ah_R h93 2 x90 = some q95 ∧ ah_T h93 q95 = 3 ∧ w_WH_settle q95 (if (x92 + (1 : Int32)) < (0 : Int32) then (0 : Int32) else (x92 + (1 : Int32))) h93 (fun h98 => ah_m h93 h98 → ∃ q102, ah_R h98 3 x90 = some q102 ∧ ∃ q104, ah_R h98 3 x90 = some q104 ∧ ah_T h98 q102 = 3 ∧ w_WH_becomeShiftedDown q102 q104 x91 h98 (fun h107 => ah_m h98 h107 → K h107))) (Or.inl rfl) (Or.inr (Or.inl rfl)) (Or.inl rfl) (Or.inr (Or.inl rfl)) V hQR hQS hSR qQR qQS qSR CD hf2 (by omega) (fun hh dq e f1 f2 f3 f4 f5 f6 f7 f8 f9 f10 => by
          have ee : dg_v 4294967296 e nr = dg_v 4294967296 e (k + 1) := dg_z hnr2 (fun i h1 _ => f7 i h1)
          exact fin hh dq e f1 f2 f3 f4 f5 ⟨f6, fun i hi => f7 i (by omega), Cr.2.2.2⟩ f8 (by rw [ee]; exact f9) (by rw [ee]; exact f10))
        (na + 1 - (k + 1)) hh4 (fun _ => 0) er (Nat.le_refl _) fr4 Qw4 (fun _ => (by decide : (0 : Nat) < 4294967296)) (fun _ _ => rfl) Rw4 Cr.1 (fun l hl => Cr.2.1 l (by omega)) Sw4 (by rw [du_n, Nat.zero_mul, Nat.zero_mul, Nat.zero_add, hsum, hNv]) (by
          have h1 := dg_sp (B := 4294967296) (d := er) (na + 1 - (k + 1)) (k + 1)
          rw [hsum, hNv] at h1
          have h2 := cn_lt CA
          have h3 := cn_ge CB (by omega)
          rw [Nat.add_sub_cancel] at h3
          have h4 : dg_v 4294967296 da na * 2 ^ (32 - c) < 4294967296 ^ na * 2 ^ (32 - c) := Nat.mul_lt_mul_of_pos_right h2 (Nat.two_pow_pos _)
          have e5 : (4294967296 : Nat) ^ na = 4294967296 ^ (na + 1 - (k + 1)) * 4294967296 ^ k := by rw [← Nat.pow_add]; congr 1; omega
          rw [e5, Nat.mul_assoc] at h4
          have h6 : 4294967296 ^ (na + 1 - (k + 1)) * dg_v 4294967296 (fun i => er (na + 1 - (k + 1) + i)) (k + 1) < 4294967296 ^ (na + 1 - (k + 1)) * (4294967296 ^ k * 2 ^ (32 - c)) := Nat.lt_of_le_of_lt (by rw [h1]; exact Nat.le_add_left _ _) h4
          have h7 := Nat.lt_of_mul_lt_mul_left h6
          rw [hvD]
          exact Nat.lt_of_lt_of_le h7 (Nat.mul_le_mul_right _ h3))
      rw [← e64'] at key
      exact ⟨_, key⟩
  · rw [A2.2.1]; exact nI_lt (b := 258) (by omega) (by decide)
end DV5
