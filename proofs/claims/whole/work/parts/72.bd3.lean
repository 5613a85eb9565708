section BD3
variable {h h' h'' : ah_H} {x : Nat} {W q : Nat → Nat} {C : Nat × Nat × Nat × Nat × Nat} {z z' : Nat → Int} {tl wl : Nat} {f : Nat → Nat} {g : Nat → Int32} {I : Nat → Prop}
theorem s_reqShift {n : Int32} {K : ah_H → Prop} {Ex : String → ah_H → Prop} (h0 : rn_n 8192 n ≤ 8192 → K h) (h1 : ¬ rn_n 8192 n ≤ 8192 → Ex "java/lang/IllegalArgumentException" h) : w_BD_requireShift n h K Ex := by
  have hl := rn_lt (hi := 8192) (n := n) (by decide)
  refine ⟨fun hc => h1 (fun y => absurd (hl.mp y).1 (Int32.not_le.mpr hc)), fun hc => ⟨fun hd => h0 (hl.mpr ⟨Int32.not_lt.mp hc, hd⟩), fun hd => h1 (fun y => hd (hl.mp y).2)⟩⟩
theorem bl_sh {u b n : Nat} (H : bl_N u b) (h0 : u ≠ 0) : bl_N (u * 2 ^ n) (b + n) := by
  have hp : 0 < (2 : Nat) ^ n := Nat.pow_pos (by decide)
  refine ⟨by rw [Nat.pow_add]; exact Nat.mul_lt_mul_of_pos_right H.1 hp, Or.inr ?_⟩
  rcases H.2 with y | y
  · subst y
    have := H.1
    rw [Nat.pow_zero] at this
    omega
  · by_cases hb : b = 0
    · subst hb
      have := H.1
      rw [Nat.pow_zero] at this
      omega
    · rw [show b + n - 1 = (b - 1) + n by omega, Nat.pow_add]
      exact Nat.mul_le_mul_right _ y
theorem bl_nz {d : Nat → Nat} {n b : Nat} (C : cn_D d n) (H : bl_N (dg_v 4294967296 d n) b) (hn : n ≠ 0) : 32 * (n - 1) < b := by
  have h1 := cn_ge C (by omega)
  rw [BB_2] at h1
  exact (Nat.pow_lt_pow_iff_right (a := 2) (by decide)).mp (Nat.lt_of_le_of_lt h1 H.1)
theorem p_shift (D : dk_S h x W q C z tl f wl g) {r a n : Int32} {K : Int32 → ah_H → Prop} (hK : ∀ h', fx_S h h' → dk_S h' x W q C (ps_shift z r a n).2 tl f wl g → K (nI (ps_shift z r a n).1) h') : w_LW_shift x r a n h K := by
  have Q := D.1
  have no : ¬ (rk_n r < 12 ∧ rk_n a < 12 ∧ rn_n 8192 n ≤ 8192) → K 1 h := fun hn => by
    unfold ps_shift at hK
    rw [if_neg hn] at hK
    exact hK h fx_rf D
  refine ⟨Q.1, Q.1, s_register Q (fun hr _ => s_register Q (fun ha _ => s_reqShift (fun hn _ => ?_) (fun hn => by
    repeat intro _
    exact Or.inl ⟨rfl, no (fun y => hn y.2.2)⟩)) (fun ha => by
    repeat intro _
    exact Or.inl ⟨rfl, no (fun y => ha y.2.1)⟩)) (fun hr => by
    repeat intro _
    exact Or.inl ⟨rfl, no (fun y => hr y.1)⟩)⟩
  have en := rn_ok (by decide) hn
  obtain ⟨N, hN⟩ : ∃ N, N = rn_n 8192 n := ⟨_, rfl⟩
  have ep : ps_shift z r a n = (if (z (rk_n a) * 2 ^ N).natAbs < lim_N then (0, zu_n z (rk_n r) (z (rk_n a) * 2 ^ N)) else (2, z)) := by
    unfold ps_shift
    rw [if_pos ⟨hr, ha, hn⟩, hN]
  rw [ep] at hK
  rw [← hN] at hn en
  obtain ⟨⟨na, ga, da, A1, A2, A3, A4⟩, la⟩ := D.2.1.2.1 _ ha
  obtain ⟨nm, gm, dm, M1, M2⟩ := D.2.1.2.2 12 (by decide) (by decide)
  have hna : (z (rk_n a)).natAbs = dg_v 4294967296 da na := by rw [A4, sg_na]
  rw [hna] at la
  have sa := ho_256 A2 la
  obtain ⟨b, hb, hbl⟩ := bl_258 A2
  refine ⟨A1.1.1, s_bits A1 A2 hbl (fun _ => ?_)⟩
  rw [en, nI_add]
  have big : b + N ≤ 8192 ∨ na ≠ 0 → ((z (rk_n a) * 2 ^ N).natAbs < lim_N ↔ b + N ≤ 8192) := by
    intro hy
    rw [na_p2, hna]
    by_cases h0 : na = 0
    · have e0 : dg_v 4294967296 da na = 0 := (cn_0 A2).mpr h0
      rw [e0, Nat.zero_mul]
      exact ⟨fun _ => by rcases hy with y | y; exact y; exact absurd h0 y, fun _ => lim_pos⟩
    · exact (bl_lim (bl_sh hbl (fun y => h0 ((cn_0 A2).mp y)))).symm
  refine ⟨fun hl => ?_, fun hl _ => Or.inr ⟨rfl, ?_⟩⟩
  · have h8 := (nI_leI (b := 8192) (by omega) (by decide)).mp hl
    have hroom : na + N / 32 ≤ 257 := by
      by_cases h0 : na = 0
      · omega
      · have := bl_nz A2 hbl h0
        omega
    refine ⟨W 12, Q.2.1.2.1, M1.1.1, s_shiftUp M1 M2 A1 A2 (dk_ne Q (by omega) (by decide) (by omega)) hn hroom (fun n' d' C' hv _ _ => ?_)⟩
    obtain ⟨D1, F1⟩ := dk_wd D (i := 12) (b := gm) (by decide) (by decide) C'
    have ne := dk_ne Q (i := rk_n a) (j := 12) (by omega) (by decide) (by omega)
    refine ⟨W 12, Q.2.1.2.1, M1.1.1, ?_⟩
    rw [show ah_I (wd_S h (W 12) (q 12) n' gm d') 1 (W (rk_n a)) = bi_n ga from (ws_Ia ne.1).trans A1.2.2.1]
    refine s_markSign (wh_wd M1.1) C'.2.2.2 ga (fun _ => ?_)
    rw [wd_wd]
    obtain ⟨D2, F2⟩ := dk_wd D (i := 12) (b := ga && decide (0 < n')) (by decide) (by decide) C'
    have ev : sg_Z (ga && decide (0 < n')) (dg_v 4294967296 d' n') = z (rk_n a) * 2 ^ N := by
      rw [sg_b (cn_0 C'), hv, A4]
      cases ga
      · rw [sg_f, sg_f]; push_cast; rfl
      · rw [sg_t, sg_t, Int.neg_mul]; push_cast; rfl
    exact p_keep D hr D2 F2 (wh_wd M1.1) C' ms_g ev rfl hK (fun h' k _ _ => k) (fun h' k _ _ => Or.inr ⟨rfl, k⟩)
  · have h8 : ¬ b + N ≤ 8192 := fun y => hl ((nI_leI (b := 8192) (by omega) (by decide)).mpr y)
    have h0 : na ≠ 0 := by
      intro y
      have e0 : dg_v 4294967296 da na = 0 := (cn_0 A2).mpr y
      rw [e0] at hbl
      have hb0 : b = 0 := bl_u hbl ⟨by decide, Or.inl rfl⟩
      omega
    rw [if_neg (fun y => h8 ((big (Or.inr h0)).mp y))] at hK
    exact hK h fx_rf D
theorem tz_m {u k n : Nat} (H : tz_N u k) (h0 : u ≠ 0) : u % 2 ^ n = 0 ↔ n ≤ k := by
  rcases H with y | ⟨j, y⟩
  · exact absurd y.1 h0
  · constructor
    · intro hm
      apply Nat.le_of_not_lt
      intro hk
      obtain ⟨e, he⟩ := Nat.dvd_of_mod_eq_zero hm
      obtain ⟨i, hi⟩ : ∃ i, n = k + (i + 1) := ⟨n - k - 1, by omega⟩
      rw [y, hi, Nat.pow_add, Nat.mul_assoc, Nat.pow_succ] at he
      have := Nat.eq_of_mul_eq_mul_left (Nat.pow_pos (by decide)) he
      have h2 : 2 ^ i * 2 * e = 2 * (2 ^ i * e) := by rw [Nat.mul_comm (2 ^ i) 2, Nat.mul_assoc]
      omega
    · intro hk
      rw [y, show k = n + (k - n) by omega, Nat.pow_add, Nat.mul_assoc]
      exact Nat.mul_mod_right _ _
theorem cn_cw' {d : Nat → Nat} {n : Nat} (C : cn_D d n) : cw_D d n := ⟨C.1, C.2.1, C.2.2.2⟩
theorem p_half (D : dk_S h x W q C z tl f wl g) {r a n : Int32} {K : Int32 → ah_H → Prop} (hK : ∀ h', fx_S h h' → dk_S h' x W q C (ps_half z r a n).2 tl f wl g → K (nI (ps_half z r a n).1) h') : w_LW_half x r a n h K := by
  have Q := D.1
  have no : ¬ (rk_n r < 12 ∧ rk_n a < 12 ∧ rn_n 8192 n ≤ 8192) → K 1 h := fun hn => by
    unfold ps_half at hK
    rw [if_neg hn] at hK
    exact hK h fx_rf D
  refine ⟨Q.1, Q.1, s_register Q (fun hr _ => s_register Q (fun ha _ => s_reqShift (fun hn _ => ?_) (fun hn => by
    repeat intro _
    exact ⟨rfl, no (fun y => hn y.2.2)⟩)) (fun ha => by
    repeat intro _
    exact ⟨rfl, no (fun y => ha y.2.1)⟩)) (fun hr => by
    repeat intro _
    exact ⟨rfl, no (fun y => hr y.1)⟩)⟩
  have en := rn_ok (by decide) hn
  obtain ⟨N, hN⟩ : ∃ N, N = rn_n 8192 n := ⟨_, rfl⟩
  have ep : ps_half z r a n = (0, zu_n z (rk_n r) (z (rk_n a) / ((2 ^ N : Nat) : Int))) := by
    unfold ps_half
    rw [if_pos ⟨hr, ha, hn⟩, hN]
  rw [ep] at hK
  rw [← hN] at hn en
  have hP : 0 < (2 : Nat) ^ N := Nat.pow_pos (by decide)
  obtain ⟨⟨na, ga, da, A1, A2, A3, A4⟩, la⟩ := D.2.1.2.1 _ ha
  obtain ⟨nm, gm, dm, M1, M2⟩ := D.2.1.2.2 12 (by decide) (by decide)
  obtain ⟨nr, gr, dr, R1, R2, _⟩ := (D.2.1.2.1 _ hr).1
  have hna : (z (rk_n a)).natAbs = dg_v 4294967296 da na := by rw [A4, sg_na]
  have hlim : (z (rk_n a) / ((2 ^ N : Nat) : Int)).natAbs < lim_N := Nat.lt_of_le_of_lt (hf_na hP) la
  have ne := dk_ne Q (i := rk_n a) (j := 12) (by omega) (by decide) (by omega)
  have ner := dk_ne Q (i := rk_n r) (j := 12) (by omega) (by decide) (by omega)
  rw [en]
  refine ⟨W 12, Q.2.1.2.1, M1.1.1, s_shiftDown M1 (cn_cw' M2) A1 (cn_cw' A2) (Or.inr ne) hn (fun n' d' C' hv _ => ⟨A1.1.1, ?_⟩)⟩
  rw [hna.symm] at hv
  -- the end, for a made that holds the absolute value
  have fin : ∀ (n2 : Nat) (d2 : Nat → Nat), cn_D d2 n2 → sg_Z ga (dg_v 4294967296 d2 n2) = z (rk_n a) / ((2 ^ N : Nat) : Int) → bk_BD_half_52 (fun h5 => ah_m h h5 → K 0 h5) (fun E6 h7 => ah_m h h7 → (E6 = "java/lang/IllegalArgumentException" ∧ K 1 h7)) x (W (rk_n r)) (W (rk_n a)) (wd_S h (W 12) (q 12) n2 gm d2) := by
    intro n2 d2 C2 ev
    refine ⟨Q.1, W 12, Q.2.1.2.1, A1.1.1, M1.1.1, ?_⟩
    rw [show ah_I (wd_S h (W 12) (q 12) n2 gm d2) 1 (W (rk_n a)) = bi_n ga from (ws_Ia ne.1).trans A1.2.2.1]
    refine s_markSign (wh_wd M1.1) C2.2.2.2 ga (fun _ => ⟨W 12, Q.2.1.2.1, R1.1.1, ?_⟩)
    rw [wd_wd]
    obtain ⟨D2, F2⟩ := dk_wd D (i := 12) (b := ga && decide (0 < n2)) (by decide) (by decide) C2
    have hR : wh_S (wd_S h (W 12) (q 12) n2 (ga && decide (0 < n2)) d2) (W (rk_n r)) (q (rk_n r)) nr gr dr := wh_ot R1 ner.1 ner.2
    refine s_become hR (wh_wd M1.1) (cn_258 R2) (cn_258 C2) (fun _ _ => ?_)
    have ev2 : sg_Z (ga && decide (0 < n2)) (dg_v 4294967296 d2 n2) = z (rk_n a) / ((2 ^ N : Nat) : Int) := by rw [sg_b (cn_0 C2)]; exact ev
    have hl2 : dg_v 4294967296 d2 n2 < lim_N := by rw [← ev, sg_na] at hlim; exact hlim
    obtain ⟨D3, F3⟩ := dk_wr D2 hr C2 (b := ga && decide (0 < n2)) ms_g hl2
    rw [ev2] at D3
    exact hK _ (fx_tr F2 F3) D3
  have hgI : ah_I (wd_S h (W 12) (q 12) n' gm d') 1 (W (rk_n a)) = bi_n ga := (ws_Ia ne.1).trans A1.2.2.1
  refine ⟨fun hc => fin n' d' C' ?_, fun hc => ?_⟩
  · rw [hgI] at hc
    have hg0 := bi_0.mp hc
    have hp : 0 ≤ z (rk_n a) := by rw [A4, hg0, sg_f]; omega
    rw [hg0, sg_f, hv, hf_p hp]
  · rw [hgI] at hc
    have hg1 : ga = true := by
      cases ga
      · exact absurd rfl hc
      · rfl
    have hn0 := A3 hg1
    have hd0 : dg_v 4294967296 da na ≠ 0 := fun y => hn0 ((cn_0 A2).mp y)
    have hneg : z (rk_n a) < 0 := by rw [A4, hg1, sg_t]; omega
    have A1' : wh_S (wd_S h (W 12) (q 12) n' gm d') (W (rk_n a)) (q (rk_n a)) na ga da := wh_ot A1 ne.1 ne.2
    have sa : dg_v 4294967296 da na < 2 ^ 8192 := by rw [← lim_eq, ← hna]; exact la
    obtain ⟨k, j, hk, hj⟩ := tz_ex 8192 _ sa hd0
    refine s_endingZeros A1' A2 (Or.inr ⟨j, hj⟩) (fun _ => ⟨fun hl => fin n' d' C' ?_, fun hl => ⟨W 12, Q.2.1.2.1, M1.1.1, ?_⟩⟩)
    · have h1 := (nI_leI (by omega) (by omega)).mp hl
      have hm := (tz_m (n := N) (Or.inr ⟨j, hj⟩) hd0).mpr h1
      rw [hg1, sg_t, hv, hf_n hP hneg, hna, if_pos hm, Int.sub_zero]
    · have h1 : ¬ N ≤ k := fun y => hl ((nI_leI (by omega) (by omega)).mpr y)
      have hm : ¬ dg_v 4294967296 da na % 2 ^ N = 0 := fun y => h1 ((tz_m (Or.inr ⟨j, hj⟩) hd0).mp y)
      have hn' : n' < 258 := by
        have h3 : dg_v 4294967296 d' n' < lim_N := by rw [hv]; exact Nat.lt_of_le_of_lt (Nat.div_le_self _ _) la
        have := ho_256 C' h3
        omega
      refine s_addOne (wh_wd M1.1) C' hn' (fun n2 d2 C2 hv2 _ => ?_)
      rw [wd_wd]
      refine fin n2 d2 C2 ?_
      rw [hg1, sg_t, hv2, hv, hf_n hP hneg, hna, if_neg hm]
      push_cast
      omega
/-- divide -/
theorem fl_u {a b q1 r1 q2 r2 : Int} (H1 : fl_D a b q1 r1) (H2 : fl_D a b q2 r2) : q1 = q2 ∧ r1 = r2 := by
  have pos : ∀ {a b q r : Int}, 0 < b → a = q * b + r → 0 ≤ r → r < b → a / b = q ∧ a % b = r := by
    intro a b q r hb e h1 h2
    exact (Int.ediv_emod_unique hb).mpr ⟨by rw [e, Int.mul_comm]; omega, h1, h2⟩
  obtain ⟨e1, c1⟩ := H1
  obtain ⟨e2, c2⟩ := H2
  rcases Int.lt_trichotomy b 0 with hb | hb | hb
  · have d1 : b < r1 ∧ r1 ≤ 0 := by omega
    have d2 : b < r2 ∧ r2 ≤ 0 := by omega
    have p1 := pos (a := -a) (b := -b) (q := q1) (r := -r1) (by omega) (by rw [e1, Int.mul_neg]; omega) (by omega) (by omega)
    have p2 := pos (a := -a) (b := -b) (q := q2) (r := -r2) (by omega) (by rw [e2, Int.mul_neg]; omega) (by omega) (by omega)
    exact ⟨p1.1.symm.trans p2.1, by have := p1.2.symm.trans p2.2; omega⟩
  · omega
  · have p1 := pos (a := a) (b := b) (q := q1) (r := r1) hb e1 (by omega) (by omega)
    have p2 := pos (a := a) (b := b) (q := q2) (r := r2) hb e2 (by omega) (by omega)
    exact ⟨p1.1.symm.trans p2.1, p1.2.symm.trans p2.2⟩
theorem fl_b {a b q r : Int} (H : fl_D a b q r) : r.natAbs < b.natAbs ∧ q.natAbs ≤ a.natAbs := by
  obtain ⟨e, c⟩ := H
  refine ⟨by omega, ?_⟩
  have main : ∀ {a b q r : Int}, 0 < b → a = q * b + r → 0 ≤ r → r < b → q.natAbs ≤ a.natAbs := by
    intro a b q r hb e h1 h2
    rcases Int.lt_or_le q 0 with y | y
    · have h3 : (q + 1) * b ≤ (q + 1) * 1 := Int.mul_le_mul_of_nonpos_left (by omega) (by omega)
      rw [Int.add_mul] at h3
      omega
    · have h3 : q * 1 ≤ q * b := Int.mul_le_mul_of_nonneg_left (by omega) y
      omega
  rcases Int.lt_trichotomy b 0 with hb | hb | hb
  · have := main (a := -a) (b := -b) (q := q) (r := -r) (by omega) (by rw [e, Int.mul_neg]; omega) (by omega) (by omega)
    omega
  · omega
  · exact main hb e (by omega) (by omega)
def pd_S (z : Nat → Int) (q s a b : Int32) (c : Nat) (z' : Nat → Int) : Prop :=
  ((rk_n q < 12 ∧ rk_n s < 12 ∧ rk_n a < 12 ∧ rk_n b < 12 ∧ q ≠ s) ∧ ((z (rk_n b) = 0 ∧ c = 2 ∧ z' = z) ∨ (z (rk_n b) ≠ 0 ∧ c = 0 ∧ ∃ zq zr, fl_D (z (rk_n a)) (z (rk_n b)) zq zr ∧ z' = zu_n (zu_n z (rk_n q) zq) (rk_n s) zr))) ∨ (¬ (rk_n q < 12 ∧ rk_n s < 12 ∧ rk_n a < 12 ∧ rk_n b < 12 ∧ q ≠ s) ∧ c = 1 ∧ z' = z)
theorem pd_u {q s a b : Int32} {c1 c2 : Nat} {z1 z2 : Nat → Int} (H1 : pd_S z q s a b c1 z1) (H2 : pd_S z q s a b c2 z2) : c1 = c2 ∧ z1 = z2 := by
  rcases H1 with ⟨v1, H1⟩ | ⟨v1, a1, b1⟩ <;> rcases H2 with ⟨v2, H2⟩ | ⟨v2, a2, b2⟩
  · rcases H1 with ⟨y1, a1, b1⟩ | ⟨y1, a1, q1, r1, f1, b1⟩ <;> rcases H2 with ⟨y2, a2, b2⟩ | ⟨y2, a2, q2, r2, f2, b2⟩
    · exact ⟨a1.trans a2.symm, b1.trans b2.symm⟩
    · exact absurd y1 y2
    · exact absurd y2 y1
    · obtain ⟨e1, e2⟩ := fl_u f1 f2
      subst e1; subst e2
      exact ⟨a1.trans a2.symm, b1.trans b2.symm⟩
  · exact absurd v1 v2
  · exact absurd v2 v1
  · exact ⟨a1.trans a2.symm, b1.trans b2.symm⟩
theorem dk_dw (D : dk_S h x W q C z tl f wl g) : dw_S h C.2.1 (W 14) (q 14) (W 15) (q 15) (W 16) (q 16) := by
  have Q := D.1
  have n1 := dk_ne Q (i := 14) (j := 15) (by decide) (by decide) (by decide)
  have n2 := dk_ne Q (i := 14) (j := 16) (by decide) (by decide) (by decide)
  have n3 := dk_ne Q (i := 16) (j := 15) (by decide) (by decide) (by decide)
  exact ⟨Q.2.2.2.1, ⟨n1.1, n2.1, n3.1, n1.2, n2.2, n3.2⟩, D.2.1.2.2 14 (by decide) (by decide), D.2.1.2.2 15 (by decide) (by decide), D.2.1.2.2 16 (by decide) (by decide)⟩
theorem dk_d3 (Q : dk_Q h x W q C) {i : Nat} (hi : i < 19) (hn : i ≠ 14 ∧ i ≠ 15 ∧ i ≠ 16) : ¬ d3_S (W 14) (W 15) (W 16) (W i) ∧ ¬ d3_S (q 14) (q 15) (q 16) (q i) := by
  have n1 := dk_ne Q hi (j := 14) (by decide) hn.1
  have n2 := dk_ne Q hi (j := 15) (by decide) hn.2.1
  have n3 := dk_ne Q hi (j := 16) (by decide) hn.2.2
  refine ⟨fun y => ?_, fun y => ?_⟩
  · rcases y with y | y | y
    · exact n1.1 y
    · exact n2.1 y
    · exact n3.1 y
  · rcases y with y | y | y
    · exact n1.2 y
    · exact n2.2 y
    · exact n3.2 y
theorem dk_dv (D : dk_S h x W q C z tl f wl g) (F : fr_S (d3_S (W 14) (W 15) (W 16)) (d3_S (q 14) (q 15) (q 16)) h h') (w1 : cw_W h' (W 14) (q 14)) (w2 : cw_W h' (W 15) (q 15)) (w3 : cw_W h' (W 16) (q 16)) : dk_S h' x W q C z tl f wl g ∧ fx_S h h' := by
  have hs : ∀ (V : Nat → Nat) (a : Nat), d3_S (V 14) (V 15) (V 16) a → ix_S V (fun i => 14 ≤ i ∧ i ≤ 16) a := fun V a y => by
    rcases y with y | y | y
    · exact ⟨14, by decide, ⟨by decide, by decide⟩, y⟩
    · exact ⟨15, by decide, ⟨by decide, by decide⟩, y⟩
    · exact ⟨16, by decide, ⟨by decide, by decide⟩, y⟩
  refine dk_fr (I := fun i => 14 ≤ i ∧ i ≤ 16) D (fr_mo F (hs W) (hs q)) (fun i hi y => by omega) (fun i _ _ y => ?_) (fun _ _ _ => rfl)
  obtain e | e | e : i = 14 ∨ i = 15 ∨ i = 16 := by omega
  · rw [e]; exact w1
  · rw [e]; exact w2
  · rw [e]; exact w3
theorem p_divide (D : dk_S h x W q C z tl f wl g) {qq s a b : Int32} {K : Int32 → ah_H → Prop} (hK : ∀ h' c z', pd_S z qq s a b c z' → fx_S h h' → dk_S h' x W q C z' tl f wl g → K (nI c) h') : w_LW_divide x qq s a b h K := by
  have Q := D.1
  have no : ¬ (rk_n qq < 12 ∧ rk_n s < 12 ∧ rk_n a < 12 ∧ rk_n b < 12 ∧ qq ≠ s) → K 1 h := fun hn => hK h 1 z (Or.inr ⟨hn, rfl, rfl⟩) fx_rf D
  refine ⟨Q.1, Q.1, s_register Q (fun hq _ => s_register Q (fun hs _ => s_register Q (fun ha _ => s_register Q (fun hb _ => ⟨fun hqs => ?_, fun hqs => ?_⟩) (fun hb => by
    repeat intro _
    exact Or.inl ⟨rfl, no (fun y => hb y.2.2.2.1)⟩)) (fun ha => by
    repeat intro _
    exact Or.inl ⟨rfl, no (fun y => ha y.2.2.1)⟩)) (fun hs => by
    repeat intro _
    exact Or.inl ⟨rfl, no (fun y => hs y.2.1)⟩)) (fun hq => by
    repeat intro _
    exact Or.inl ⟨rfl, no (fun y => hq y.1)⟩)⟩
  · obtain ⟨⟨na, ga, da, A1, A2, A3, A4⟩, la⟩ := D.2.1.2.1 _ ha
    obtain ⟨⟨nb, gb, db, B1, B2, B3, B4⟩, lb⟩ := D.2.1.2.1 _ hb
    obtain ⟨nq, gq, dq, R1, R2, _⟩ := (D.2.1.2.1 _ hq).1
    obtain ⟨ns, gs, ds, S1, S2, _⟩ := (D.2.1.2.1 _ hs).1
    have la' := la
    have lb' := lb
    rw [A4, sg_na] at la
    rw [B4, sg_na] at lb
    have sa := ho_256 A2 la
    have sb := ho_256 B2 lb
    refine ⟨B1.1.1, fun hz => ?_, fun hz => ?_⟩
    · have hnb : nb ≠ 0 := fun y => hz (by rw [B1.2.1, y]; rfl)
      have hzb : z (rk_n b) ≠ 0 := by
        intro y
        have := sg_na (b := gb) (n := dg_v 4294967296 db nb)
        rw [← B4, y] at this
        exact hnb ((cn_0 B2).mp this.symm)
      have dA := dk_d3 Q (i := rk_n a) (by omega) (by omega)
      have dB := dk_d3 Q (i := rk_n b) (by omega) (by omega)
      refine ⟨C.2.1, Q.2.1.2.2.2.1, Q.2.2.2.1.1, s_downwards (dk_dw D) A1 A2 (by omega) B1 B2 hnb (by omega) dA.1 dA.2 dB.1 dB.2 (fun h1 zq zr F1 Hq Hr Hs fl _ => ?_)⟩
      rw [← A4, ← B4] at fl
      obtain ⟨D1, X1⟩ := dk_dv D F1 (ho_cw Hq) (ho_cw Hr) Hs
      have Q1 := D1.1
      have dq := dk_d3 Q (i := rk_n qq) (by omega) (by omega)
      have ds' := dk_d3 Q (i := rk_n s) (by omega) (by omega)
      have R1' := fr_wh F1 R1 dq.1 dq.2
      have S1' := fr_wh F1 S1 ds'.1 ds'.2
      have bd := fl_b fl
      obtain ⟨n1, g1, d1, U1, U2, U3, U4⟩ := Hq
      obtain ⟨n2, g2, d2, V1, V2, V3, V4⟩ := Hr
      have l1 : dg_v 4294967296 d1 n1 < lim_N := by
        have : zq.natAbs = dg_v 4294967296 d1 n1 := by rw [U4, sg_na]
        omega
      have l2 : dg_v 4294967296 d2 n2 < lim_N := by
        have : zr.natAbs = dg_v 4294967296 d2 n2 := by rw [V4, sg_na]
        omega
      refine ⟨C.2.1, Q1.2.1.2.2.2.1, Q1.2.2.2.1.1, W 14, Q1.2.2.2.1.2.1, R1'.1.1, s_become R1' U1 (cn_258 R2) (cn_258 U2) (fun _ => ?_)⟩
      obtain ⟨D2, X2⟩ := dk_wr D1 hq U2 U3 l1
      rw [← U4] at D2
      have Q2 := D2.1
      have nqs : rk_n s ≠ rk_n qq := fun y => hqs (by rw [(rk_ok hq).2.2, (rk_ok hs).2.2, y])
      have nS := dk_ne Q (i := rk_n s) (j := rk_n qq) (by omega) (by omega) nqs
      have nV := dk_ne Q (i := 15) (j := rk_n qq) (by decide) (by omega) (by omega)
      have S2' := wh_ot (t := W (rk_n qq)) (q := q (rk_n qq)) (nt := n1) (ngt := g1) (e := d1) S1' nS.1 nS.2
      have V2' := wh_ot (t := W (rk_n qq)) (q := q (rk_n qq)) (nt := n1) (ngt := g1) (e := d1) V1 nV.1 nV.2
      refine ⟨C.2.1, Q2.2.1.2.2.2.1, Q2.2.2.2.1.1, W 15, Q2.2.2.2.1.2.2.1, S2'.1.1, s_become S2' V2' (cn_258 S2) (cn_258 V2) (fun _ _ => ?_)⟩
      obtain ⟨D3, X3⟩ := dk_wr D2 hs V2 V3 l2
      rw [← V4] at D3
      exact hK _ 0 _ (Or.inl ⟨⟨hq, hs, ha, hb, hqs⟩, Or.inr ⟨hzb, rfl, zq, zr, fl, rfl⟩⟩) (fx_tr X1 (fx_tr X2 X3)) D3
    · have hnb : nb = 0 := by
        rw [B1.2.1] at hz
        exact (nI_eq (b := 0) (by omega) (by decide)).mp hz
      have hzb : z (rk_n b) = 0 := by
        have := sg_na (b := gb) (n := dg_v 4294967296 db nb)
        rw [← B4, (cn_0 B2).mpr hnb] at this
        omega
      repeat intro _
      exact Or.inr ⟨rfl, hK h 2 z (Or.inl ⟨⟨hq, hs, ha, hb, hqs⟩, Or.inl ⟨hzb, rfl, rfl⟩⟩) fx_rf D⟩
  · repeat intro _
    exact Or.inl ⟨rfl, no (fun y => y.2.2.2.2 hqs)⟩
end BD3
