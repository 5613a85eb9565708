section BD4
variable {h h' h'' : ah_H} {x : Nat} {W q : Nat → Nat} {C : Nat × Nat × Nat × Nat × Nat} {z z' : Nat → Int} {tl wl : Nat} {f : Nat → Nat} {g : Nat → Int32} {I : Nat → Prop}
theorem dk_s5 (Q : dk_Q h x W q C) {i j k : Nat} (hij : (i = 17 ∧ j = 18) ∨ (i = 18 ∧ j = 17)) (hk : k < 12) : ¬ s5_S (W i) (W j) (W 14) (W 15) (W 16) (W k) ∧ ¬ s5_S (q i) (q j) (q 14) (q 15) (q 16) (q k) := by
  have n1 := dk_ne Q (i := k) (j := i) (by omega) (by omega) (by omega)
  have n2 := dk_ne Q (i := k) (j := j) (by omega) (by omega) (by omega)
  have n3 := dk_d3 Q (i := k) (by omega) (by omega)
  refine ⟨fun y => ?_, fun y => ?_⟩
  · rcases y with y | y | y
    · exact n1.1 y
    · exact n2.1 y
    · exact n3.1 y
  · rcases y with y | y | y
    · exact n1.2 y
    · exact n2.2 y
    · exact n3.2 y
theorem p_gcd (D : dk_S h x W q C z tl f wl g) {r a b : Int32} {K : Int32 → ah_H → Prop} (hK : ∀ h', fx_S h h' → dk_S h' x W q C (ps_gcd z r a b).2 tl f wl g → K (nI (ps_gcd z r a b).1) h') : w_LW_gcd x r a b h K := by
  have Q := D.1
  unfold ps_gcd at hK
  have no : ¬ (rk_n r < 12 ∧ rk_n a < 12 ∧ rk_n b < 12) → K 1 h := fun hn => by
    rw [if_neg hn] at hK
    exact hK h fx_rf D
  refine ⟨Q.1, Q.1, s_register Q (fun hr _ => ⟨C.2.2.1, Q.2.1.2.2.2.2.1, s_register Q (fun ha _ => s_register Q (fun hb _ => ⟨C.2.1, Q.2.1.2.2.2.1, Q.2.2.2.2.1, ?_⟩) (fun hb => by
    repeat intro _
    exact ⟨rfl, no (fun y => hb y.2.2)⟩)) (fun ha => by
    repeat intro _
    exact ⟨rfl, no (fun y => ha y.2.1)⟩)⟩) (fun hr => by
    repeat intro _
    exact ⟨rfl, no (fun y => hr y.1)⟩)⟩
  rw [if_pos ⟨hr, ha, hb⟩] at hK
  obtain ⟨⟨na, ga, da, A1, A2, A3, A4⟩, la⟩ := D.2.1.2.1 _ ha
  obtain ⟨⟨nb, gb, db, B1, B2, B3, B4⟩, lb⟩ := D.2.1.2.1 _ hb
  obtain ⟨nr, gr, dr, R1, R2, _⟩ := (D.2.1.2.1 _ hr).1
  have ea : (z (rk_n a)).natAbs = dg_v 4294967296 da na := by rw [A4, sg_na]
  have eb : (z (rk_n b)).natAbs = dg_v 4294967296 db nb := by rw [B4, sg_na]
  have sa := ho_256 A2 (by rw [← ea]; exact la)
  have sb := ho_256 B2 (by rw [← eb]; exact lb)
  obtain ⟨X, qX, Y, qY, c1, c2⟩ := D.2.1.1
  obtain ⟨i, j, hij, e1, e2, e3, e4⟩ : ∃ i j, ((i = 17 ∧ j = 18) ∨ (i = 18 ∧ j = 17)) ∧ X = W i ∧ qX = q i ∧ Y = W j ∧ qY = q j := by
    rcases c2 with ⟨y1, y2, y3, y4⟩ | ⟨y1, y2, y3, y4⟩
    · exact ⟨17, 18, Or.inl ⟨rfl, rfl⟩, y1, y2, y3, y4⟩
    · exact ⟨18, 17, Or.inr ⟨rfl, rfl⟩, y1, y2, y3, y4⟩
  subst e1; subst e2; subst e3; subst e4
  have hi : i < 19 := by omega
  have hj : j < 19 := by omega
  have nij := dk_ne Q hi hj (by omega)
  have d1 := dk_d3 Q hi (by omega)
  have d2 := dk_d3 Q hj (by omega)
  have na5 := dk_s5 Q hij ha
  have nb5 := dk_s5 Q hij hb
  have nr5 := dk_s5 Q hij hr
  refine s_greatest c1 (D.2.1.2.2 i (by omega) hi) (D.2.1.2.2 j (by omega) hj) (dk_dw D) nij.1 nij.2 d1.1 d2.1 d1.2 d2.2 A1 A2 sa B1 B2 sb na5.1 na5.2 nb5.1 nb5.2 (fun hh X' qX' Y' qY' n d xy fg c3 Xw Cd ev Yw Dw _ => ?_)
  obtain ⟨i', j', hij', e1, e2, e3, e4⟩ : ∃ i' j', ((i' = 17 ∧ j' = 18) ∨ (i' = 18 ∧ j' = 17)) ∧ X' = W i' ∧ qX' = q i' ∧ Y' = W j' ∧ qY' = q j' := by
    rcases xy with ⟨y1, y2, y3, y4⟩ | ⟨y1, y2, y3, y4⟩
    · exact ⟨i, j, hij, y1, y2, y3, y4⟩
    · exact ⟨j, i, by omega, y1, y2, y3, y4⟩
  subst e1; subst e2; subst e3; subst e4
  have hi' : i' < 19 := by omega
  have hs : ∀ (V : Nat → Nat) (y : Nat), s5_S (V i) (V j) (V 14) (V 15) (V 16) y → ix_S V (fun k => 14 ≤ k) y := fun V y w => by
    rcases w with w | w | w | w | w
    · exact ⟨i, hi, (by omega : 14 ≤ i), w⟩
    · exact ⟨j, hj, (by omega : 14 ≤ j), w⟩
    · exact ⟨14, by decide, (by decide : 14 ≤ 14), w⟩
    · exact ⟨15, by decide, (by decide : 14 ≤ 15), w⟩
    · exact ⟨16, by decide, (by decide : 14 ≤ 16), w⟩
  obtain ⟨D1, F1⟩ := dk_up (I := fun k => 14 ≤ k) (z' := z) D (fg_mo fg (hs W) (hs q) (fun _ w => w)) ⟨W i', q i', W j', q j', c3, by
    rcases hij' with ⟨y1, y2⟩ | ⟨y1, y2⟩
    · rw [y1, y2]; exact Or.inl ⟨rfl, rfl, rfl, rfl⟩
    · rw [y1, y2]; exact Or.inr ⟨rfl, rfl, rfl, rfl⟩⟩ (fun k hk y => by omega) (fun k _ hk y => by
    obtain e | e | e | e | e : k = 14 ∨ k = 15 ∨ k = 16 ∨ k = i' ∨ k = j' := by omega
    · rw [e]; exact Dw.2.2.1
    · rw [e]; exact Dw.2.2.2.1
    · rw [e]; exact Dw.2.2.2.2
    · rw [e]; exact ⟨n, false, d, Xw, Cd⟩
    · rw [e]; exact Yw) (fun _ _ _ => rfl)
  have R1' : wh_S hh (W (rk_n r)) (q (rk_n r)) nr gr dr := fg_wh fg R1 nr5.1 nr5.2 (dk_cdW Q (by omega))
  refine ⟨R1'.1.1, s_become R1' Xw (cn_258 R2) (cn_258 Cd) (fun _ _ => ?_)⟩
  have hgl : dg_v 4294967296 d n < lim_N := by
    rw [ev, ← ea, ← eb]
    rcases Nat.eq_zero_or_pos (z (rk_n a)).natAbs with y | y
    · rw [y, Nat.gcd_zero_left]; exact lb
    · exact Nat.lt_of_le_of_lt (Nat.gcd_le_left _ y) la
  obtain ⟨D2, F2⟩ := dk_wr D1 hr Cd (b := false) (fun y => Bool.noConfusion y) hgl
  rw [sg_f, ev, ← ea, ← eb] at D2
  exact hK _ (fx_tr F1 F2) D2
/-- compare(a, b) -/
theorem cm_k {ga gb : Bool} {u v : Nat} (hu : ga = true → u ≠ 0) (hv : gb = true → v ≠ 0) (r : Int32) (hr : or_N r u v) : (ga = gb → ga = false → r = sI_n (sg_Z ga u - sg_Z gb v)) ∧ (ga = gb → ga = true → -r = sI_n (sg_Z ga u - sg_Z gb v)) := by
  refine ⟨fun e1 e2 => ?_, fun e1 e2 => ?_⟩
  · subst e1; subst e2
    rw [sg_f, sg_f]
    rcases hr with ⟨y, w⟩ | ⟨y, w⟩ | ⟨y, w⟩
    · rw [y, sI_m.mpr (by omega)]
    · rw [y, sI_0.mpr (by omega)]
    · rw [y, sI_p.mpr (by omega)]
  · subst e1; subst e2
    rw [sg_t, sg_t]
    rcases hr with ⟨y, w⟩ | ⟨y, w⟩ | ⟨y, w⟩
    · rw [y, sI_p.mpr (by omega)]; decide
    · rw [y, sI_0.mpr (by omega)]; decide
    · rw [y, sI_m.mpr (by omega)]
theorem c_compare (D : dk_S h x W q C z tl f wl g) {a b : Int32} {K : Int32 → ah_H → Prop} {Ex : String → ah_H → Prop} (h0 : rk_n a < 12 → rk_n b < 12 → K (sI_n (z (rk_n a) - z (rk_n b))) h) (h1 : ¬ (rk_n a < 12 ∧ rk_n b < 12) → Ex "java/lang/IllegalArgumentException" h) : w_BD_compare x a b h K Ex := by
  have Q := D.1
  refine ⟨Q.1, s_register Q (fun ha _ => s_register Q (fun hb _ => ?_) (fun hb => by
    repeat intro _
    exact h1 (fun y => hb y.2))) (fun ha _ => h1 (fun y => ha y.1))⟩
  obtain ⟨⟨na, ga, da, A1, A2, A3, A4⟩, la⟩ := D.2.1.2.1 _ ha
  obtain ⟨⟨nb, gb, db, B1, B2, B3, B4⟩, lb⟩ := D.2.1.2.1 _ hb
  have A3' : ga = true → dg_v 4294967296 da na ≠ 0 := fun y w => A3 y ((cn_0 A2).mp w)
  have B3' : gb = true → dg_v 4294967296 db nb ≠ 0 := fun y w => B3 y ((cn_0 B2).mp w)
  have K0 := h0 ha hb
  rw [A4, B4] at K0
  rw [A1.2.2.1, B1.2.2.1]
  refine ⟨A1.1.1, B1.1.1, fun he => s_order A1 A2 B1 B2 (fun r hr _ => ⟨fun hg => ?_, fun hg => ?_⟩), fun hne => ⟨fun hg => ?_, fun hg => ?_⟩⟩
  · rw [A1.2.2.1] at hg
    have := (cm_k A3' B3' r hr).1 (bi_eq.mp he) (bi_0.mp hg)
    rw [← this] at K0
    exact K0
  · rw [A1.2.2.1] at hg
    have hg1 : ga = true := by
      cases ga
      · exact absurd rfl hg
      · rfl
    have := (cm_k A3' B3' r hr).2 (bi_eq.mp he) hg1
    rw [← this] at K0
    exact K0
  · have e1 := bi_0.mp hg
    have e2 : gb = true := by
      cases gb
      · exact absurd (by rw [e1]) hne
      · rfl
    have := B3' e2
    rw [e1, e2, sg_f, sg_t, sI_p.mpr (by omega)] at K0
    exact K0
  · have e1 : ga = true := by
      cases ga
      · exact absurd rfl hg
      · rfl
    have e2 : gb = false := by
      cases gb
      · rfl
      · exact absurd (by rw [e1]) hne
    have := A3' e1
    rw [e1, e2, sg_t, sg_f, sI_m.mpr (by omega)] at K0
    exact K0
/-- rest(a, m) -/
theorem c_rest (D : dk_S h x W q C z tl f wl g) {a : Int32} {v : Int64} {K : Int64 → ah_H → Prop} {Ex : String → ah_H → Prop} (h0 : rk_n a < 12 → 1 ≤ v.toInt → ∀ h', dk_S h' x W q C z tl f wl g → fx_S h h' → K (oL (z (rk_n a) % v.toInt)) h') (h1 : ¬ (rk_n a < 12 ∧ 1 ≤ v.toInt) → Ex "java/lang/IllegalArgumentException" h) : w_BD_rest x a v h K Ex := by
  have Q := D.1
  refine ⟨Q.1, s_register Q (fun ha _ => ⟨fun hv => ?_, fun hv => h1 (fun y => hv ?_)⟩) (fun ha _ => h1 (fun y => ha y.1))⟩
  · rw [Int64.le_iff_toInt_le] at hv
    have hv' : 1 ≤ v.toInt := hv
    have hvl := v.toInt_lt
    obtain ⟨⟨na, ga, da, A1, A2, A3, A4⟩, la⟩ := D.2.1.2.1 _ ha
    rw [A4, sg_na] at la
    have sa := ho_256 A2 la
    obtain ⟨n, b, d, R1, R2⟩ := D.2.1.2.2 13 (by decide) (by decide)
    refine ⟨W 13, Q.2.1.2.2.1, R1.1.1, s_becomeLong R1 R2.2.2.2 R2.1 R2.2.1 (fun n' d' b' C' hb' ev _ => ⟨C.2.1, Q.2.1.2.2.2.1, W 13, Q.2.1.2.2.1, Q.2.2.2.1.1, ?_⟩)⟩
    obtain ⟨D1, F1⟩ := dk_wd D (i := 13) (b := b') (by decide) (by decide) C'
    have Q1 := D1.1
    have nA := dk_ne Q (i := rk_n a) (j := 13) (by omega) (by decide) (by omega)
    have A1' : wh_S (wd_S h (W 13) (q 13) n' b' d') (W (rk_n a)) (q (rk_n a)) na ga da := wh_ot A1 nA.1 nA.2
    have dA := dk_d3 Q (i := rk_n a) (by omega) (by omega)
    have dB := dk_d3 Q (i := 13) (by decide) (by decide)
    have hnv : dg_v 4294967296 d' n' < lim_N := by
      have := i64_lim v
      rw [← ev, sg_na] at this
      exact this
    have hn0 : n' ≠ 0 := by
      intro y
      rw [(cn_0 C').mpr y] at ev
      cases b'
      · rw [sg_f] at ev; omega
      · rw [sg_t] at ev; omega
    have sn := ho_256 C' hnv
    refine s_downwards (dk_dw D1) A1' A2 (by omega) (wh_wd R1.1) C' hn0 (by omega) dA.1 dA.2 dB.1 dB.2 (fun h1' zq zr F Hq Hr Hs fl _ => ?_)
    rw [← A4, ev] at fl
    obtain ⟨D2, F2⟩ := dk_dv D1 F (ho_cw Hq) (ho_cw Hr) Hs
    have Q2 := D2.1
    have hzr : zr = z (rk_n a) % v.toInt := by
      obtain ⟨e, c⟩ := fl
      have c' : 0 ≤ zr ∧ zr < v.toInt := by omega
      exact ((Int.ediv_emod_unique (q := zq) (by omega)).mpr ⟨by rw [e, Int.mul_comm zq]; omega, c'.1, c'.2⟩).2.symm
    have hb := fl_b fl
    obtain ⟨n2, g2, d2, V1, V2, V3, V4⟩ := Hr
    have hn2 : n2 ≤ 2 := by
      refine cn_szl V2 ?_
      have : zr.natAbs = dg_v 4294967296 d2 n2 := by rw [V4, sg_na]
      have e2 : (4294967296 : Nat) ^ 2 = 18446744073709551616 := by decide
      rw [e2]; omega
    refine ⟨C.2.1, Q2.2.1.2.2.2.1, Q2.2.2.2.1.1, W 15, Q2.2.2.2.1.2.2.1, V1.1.1, s_asLong V1 V2 hn2 (fun _ => ?_)⟩
    rw [← V4, hzr]
    exact h0 ha hv' _ D2 (fx_tr F1 F2)
  · rw [Int64.le_iff_toInt_le]
    exact y.2
/-- value(a) -/
theorem c_value (D : dk_S h x W q C z tl f wl g) {a : Int32} {K : Int64 → ah_H → Prop} {Ex : String → ah_H → Prop} (h0 : rk_n a < 12 → fl_Z (z (rk_n a)) → K (oL (z (rk_n a))) h) (h1 : ¬ rk_n a < 12 → Ex "java/lang/IllegalArgumentException" h) (h2 : rk_n a < 12 → ¬ fl_Z (z (rk_n a)) → Ex "java/lang/IllegalStateException" h) : w_BD_value x a h K Ex := by
  have Q := D.1
  refine ⟨Q.1, s_register Q (fun ha _ => ?_) (fun ha _ => h1 ha)⟩
  obtain ⟨⟨na, ga, da, A1, A2, A3, A4⟩, la⟩ := D.2.1.2.1 _ ha
  refine ⟨A1.1.1, s_isLong A1 A2 (fun b hb _ => ⟨fun hc => ?_, fun hc => h2 ha (fun y => ?_)⟩)⟩
  · have hb1 : b = true := by
      cases b
      · exact absurd rfl hc
      · rfl
    have hf := hb.mp hb1
    have hn2 : na ≤ 2 := by
      refine cn_szl A2 ?_
      have : (z (rk_n a)).natAbs = dg_v 4294967296 da na := by rw [A4, sg_na]
      have e2 : (4294967296 : Nat) ^ 2 = 18446744073709551616 := by decide
      rw [← A4] at hf
      unfold fl_Z at hf
      rw [e2]; omega
    refine s_asLong A1 A2 hn2 (fun _ => ?_)
    rw [← A4] at hf ⊢
    exact h0 ha hf
  · rw [A4] at y
    rw [hb.mpr y] at hc
    exact absurd hc (by decide)
/-- limb(a, k) -/
theorem dg_at {d : Nat → Nat} {n : Nat} (C : cn_D d n) (k : Nat) : d k = dg_v 4294967296 d n / 4294967296 ^ k % 4294967296 := by
  have hp : 0 < (4294967296 : Nat) ^ k := Nat.pow_pos (by decide)
  have h1 : dg_v 4294967296 d n = dg_v 4294967296 d (n + (k + 1)) := (dg_z (by omega) (fun i a _ => C.2.1 i a)).symm
  have h2 : n + (k + 1) = k + (n + 1) := by omega
  rw [h1, h2, dg_sp k (n + 1), Nat.add_comm, Nat.mul_add_div hp, Nat.div_eq_of_lt (dg_lt (fun i _ => C.1 i)), Nat.add_zero, dg_hd, Nat.add_mul_mod_self_left]
  exact (Nat.mod_eq_of_lt (C.1 _)).symm
theorem c_limb (D : dk_S h x W q C z tl f wl g) {a k : Int32} {K : Int64 → ah_H → Prop} {Ex : String → ah_H → Prop} (h0 : rk_n a < 12 → rn_n 255 k ≤ 255 → K (lN ((z (rk_n a)).natAbs / 4294967296 ^ rn_n 255 k % 4294967296)) h) (h1 : ¬ (rk_n a < 12 ∧ rn_n 255 k ≤ 255) → Ex "java/lang/IllegalArgumentException" h) : w_BD_limb x a k h K Ex := by
  have Q := D.1
  have hl := rn_lt (hi := 255) (n := k) (by decide)
  refine ⟨Q.1, s_register Q (fun ha _ => ⟨fun hc => h1 (fun y => absurd (hl.mp y.2).1 (Int32.not_le.mpr hc)), fun hc => ⟨fun hd => ?_, fun hd => h1 (fun y => hd (hl.mp y.2).2)⟩⟩) (fun ha _ => h1 (fun y => ha y.1))⟩
  have hk := hl.mpr ⟨Int32.not_lt.mp hc, hd⟩
  have ek := rn_ok (by decide) hk
  obtain ⟨⟨na, ga, da, A1, A2, A3, A4⟩, la⟩ := D.2.1.2.1 _ ha
  have ea : (z (rk_n a)).natAbs = dg_v 4294967296 da na := by rw [A4, sg_na]
  have K0 := h0 ha hk
  rw [ea, ← dg_at A2] at K0
  rw [ek]
  exact ⟨A1.1.1, s_at A1 (cn_258 A2) (by omega) (fun _ => K0)⟩
/-- look(a, what) -/
theorem c_look (D : dk_S h x W q C z tl f wl g) {a k : Int32} {K : Int32 → ah_H → Prop} {Ex : String → ah_H → Prop} (h1 : ¬ (rk_n a < 12 ∧ rn_n 3 k ≤ 3) → Ex "java/lang/IllegalArgumentException" h) (k0 : rk_n a < 12 → rn_n 3 k = 0 → K (sI_n (z (rk_n a))) h) (k1 : rk_n a < 12 → rn_n 3 k = 1 → ∀ b, bl_N (z (rk_n a)).natAbs b → K (nI b) h) (k2 : rk_n a < 12 → rn_n 3 k = 2 → ∀ b : Bool, (b = true ↔ fl_Z (z (rk_n a))) → K (bi_n b) h) (k3 : rk_n a < 12 → rn_n 3 k = 3 → ∀ n, tz_N (z (rk_n a)).natAbs n → K (nI n) h) : w_BD_look x a k h K Ex := by
  have Q := D.1
  have hl := rn_lt (hi := 3) (n := k) (by decide)
  have h03 : (0 ≤ k ∧ k ≤ nI 3) ↔ (0 ≤ k.toInt ∧ k.toInt ≤ 3) := by
    rw [Int32.le_iff_toInt_le, Int32.le_iff_toInt_le, nI_toInt (by decide)]
    rfl
  have hv : ∀ j : Nat, j ≤ 3 → k.toInt = j → rn_n 3 k = j := fun j hj e => by
    have h4 := hl.mpr (h03.mpr (by omega))
    have h5 := rn_ok (by decide) h4
    have h6 : k.toInt = (rn_n 3 k : Int) := by
      conv => lhs; rw [h5]
      exact nI_toInt (by omega)
    omega
  refine ⟨Q.1, s_register Q (fun ha _ => ⟨fun hc => h1 (fun y => ?_), fun hc => ?_, fun hc => ?_, fun hc => ?_, fun hc => ?_⟩) (fun ha _ => h1 (fun y => ha y.1))⟩
  · have := h03.mp (hl.mp y.2)
    omega
  all_goals obtain ⟨⟨na, ga, da, A1, A2, A3, A4⟩, la⟩ := D.2.1.2.1 _ ha
  all_goals have ea : (z (rk_n a)).natAbs = dg_v 4294967296 da na := by rw [A4, sg_na]
  · have K0 := k0 ha (hv 0 (by decide) hc)
    refine ⟨A1.1.1, fun hg => ⟨fun hz => ?_, fun hz => ?_⟩, fun hg => ?_⟩
    · rw [A1.2.1] at hz
      have hn : na = 0 := by
        rcases Nat.eq_zero_or_pos na with y | y
        · exact y
        · exact absurd hz (nI_nle y (by have := A2.2.2.2; omega))
      have := (cn_0 A2).mpr hn
      rw [sI_0.mpr (by omega)] at K0
      exact K0
    · rw [A1.2.2.1] at hg
      have hg0 := bi_0.mp hg
      rw [A1.2.1] at hz
      have hn : na ≠ 0 := fun y => hz (by rw [y]; decide)
      have : dg_v 4294967296 da na ≠ 0 := fun y => hn ((cn_0 A2).mp y)
      rw [A4, hg0, sg_f, sI_p.mpr (by omega)] at K0
      exact K0
    · rw [A1.2.2.1] at hg
      have hg1 : ga = true := by
        cases ga
        · exact absurd rfl hg
        · rfl
      have hn := A3 hg1
      have : dg_v 4294967296 da na ≠ 0 := fun y => hn ((cn_0 A2).mp y)
      rw [A4, hg1, sg_t, sI_m.mpr (by omega)] at K0
      exact K0
  · obtain ⟨b, _, hbl⟩ := bl_258 A2
    have K1 := k1 ha (hv 1 (by decide) hc) b (by rw [ea]; exact hbl)
    exact ⟨A1.1.1, s_bits A1 A2 hbl (fun _ => K1)⟩
  · have K2 := k2 ha (hv 2 (by decide) hc)
    refine ⟨A1.1.1, s_isLong A1 A2 (fun b hb _ => ?_)⟩
    rw [← A4] at hb
    have K3 := K2 b hb
    refine ⟨fun e => ?_, fun e => ?_⟩
    · rw [e] at K3; exact K3
    · cases b
      · exact absurd rfl e
      · exact K3
  · have K3 := k3 ha (hv 3 (by decide) hc)
    have hl2 : dg_v 4294967296 da na < 2 ^ 8192 := by rw [← lim_eq, ← ea]; exact la
    obtain ⟨n, hn⟩ : ∃ n, tz_N (dg_v 4294967296 da na) n := by
      by_cases y : dg_v 4294967296 da na = 0
      · exact ⟨0, Or.inl ⟨y, rfl⟩⟩
      · obtain ⟨n, j, _, hj⟩ := tz_ex 8192 _ hl2 y
        exact ⟨n, Or.inr ⟨j, hj⟩⟩
    exact ⟨A1.1.1, s_endingZeros A1 A2 hn (fun _ => K3 n (by rw [ea]; exact hn))⟩
/-- text(what) -/
theorem c_text (D : dk_S h x W q C z tl f wl g) {k : Int32} {K : Int32 → ah_H → Prop} {Ex : String → ah_H → Prop} (k0 : k = 0 → K (nI tl) h) (k1 : k = 1 → K (nI wl) h) (h1 : ¬ (k = 0 ∨ k = 1) → Ex "java/lang/IllegalArgumentException" h) : w_BD_text x k h K Ex := by
  refine ⟨fun e0 => ⟨fun e1 => h1 (fun y => by rcases y with y | y; exact e0 y; exact e1 y), fun e1 => ⟨D.1.1, ?_⟩⟩, fun e0 => ⟨D.1.1, ?_⟩⟩
  · rw [D.2.2.2.1]; exact k1 e1
  · rw [D.2.2.1.1]; exact k0 e0
end BD4
