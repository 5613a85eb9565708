section MP1
variable {h : ah_H} {m : Nat} {A : Nat × Nat × Nat} {D Z : Nat → Nat} {G : Nat → Int32} {B : Nat × Nat} {z : Nat → Int} {tl wl : Nat} {f : Nat → Nat} {g : Nat → Int32}
/-- divide(q, s, a, b): the end -/
theorem s_dv_e (S : mo_S h m A B z tl f wl g) {q s : Nat} (hq : q < 12) (hs : s < 12) (hqs : s ≠ q) (R : rg_D D Z G z) {D' Z' : Nat → Nat} {G' : Nat → Int32} (f' : mf_S (fun x => 13 ≤ x) D Z G D' Z' G') {u w : Nat} (M15 : mz_D D' Z' G' 15 (u : Int)) (M16 : mz_D D' Z' G' 16 (w : Int)) {zb : Int} {t : Bool} {K : ah_H → Prop}
    (lu : u < lim_N) (lw : w < lim_N)
    (hK : ∀ h', fm_S m h h' → mo_S h' m A B (zu_n (zu_n z q (sg_Z t u)) s (sg_Z (decide (zb < 0)) w)) tl f wl g → ah_I h' 4 m = 0 → K h') : bk_MO_divide_189 K m (nI q) (nI s) (sI_n zb) (bi_n t) (mh_S (ah_sI h 4 m 0) A D' Z' G') := by
  have Q := S.1
  have Q0 : mo_Q (ah_sI h 4 m 0) m A := sI_Q Q
  -- the two copies
  have e229 : ∀ (G2 : Nat → Int32), mf_S (fun x => 13 ≤ x) D Z G D' Z' G2 → mz_D D' Z' G2 15 (sg_Z t u) → mz_D D' Z' G2 16 (sg_Z (decide (zb < 0)) w) → bk_MO_divide_229 K m (nI q) (nI s) (mh_S (ah_sI h 4 m 0) A D' Z' G2) := by
    intro G2 f2 m15 m16
    refine ⟨(mh_Q Q0).1, z_copyRow (fr := 15) Q0 (by omega) (by decide) m15.1 (fun D3 Z3 G3 f3 M3 g3 _ => ?_)⟩
    have m16' := mf_mz f3 (by decide) (by omega) m16
    refine z_copyRow (fr := 16) Q0 (by omega) (by decide) m16'.1 (fun D4 Z4 G4 f4 M4 g4 _ => ?_)
    have R1 : rg_D D3 Z3 G3 (zu_n z q (sg_Z t u)) := rg_u R (mf_tr (mf_mo f2 (fun x hx => Or.inr hx)) (mf_mo f3 (fun x hx => Or.inl hx)) : mf_S (fun x => x = q ∨ 13 ≤ x) D Z G D3 Z3 G3) (fun x hx hy hz => by rcases hz with y | y; exact hy y; omega) hq ⟨M3, g3.trans m15.2⟩ (by rw [sg_na]; exact lu)
    have R2 : rg_D D4 Z4 G4 (zu_n (zu_n z q (sg_Z t u)) s (sg_Z (decide (zb < 0)) w)) := rg_u R1 f4 (fun x _ hx => hx) hs ⟨M4, g4.trans m16'.2⟩ (by rw [sg_na]; exact lw)
    obtain ⟨a1, a2, a3⟩ := mo_fin S (c := 0) R2
    exact hK _ a1 a2 a3
  have e209 : ∀ (G2 : Nat → Int32), mf_S (fun x => 13 ≤ x) D Z G D' Z' G2 → mz_D D' Z' G2 15 (sg_Z t u) → mz_D D' Z' G2 16 (w : Int) → bk_MO_divide_209 K m (nI q) (nI s) (sI_n zb) (mh_S (ah_sI h 4 m 0) A D' Z' G2) := by
    intro G2 f2 m15 m16
    refine ⟨fun hp => e229 G2 f2 m15 ?_, fun hp => ⟨(mh_Q Q0).1, A.2.2, (mh_Q Q0).2.1.2.2, A.2.2, (mh_Q Q0).2.1.2.2, (mh_Q Q0).2.2.1.2.2, in_g (i := 16) Q0 (by decide), fun v130 e130 => ⟨(mh_Q Q0).2.2.1.2.2, in_g (i := 16) Q0 (by decide), fun h133 e133 => ?_⟩⟩⟩
    · have : ¬ zb < 0 := fun y => by rw [sI_m.mpr y] at hp; exact absurd hp (by decide)
      rw [decide_eq_false this]; exact m16
    · have hn : zb < 0 := by
        rcases Int.lt_trichotomy zb 0 with y | y | y
        · exact y
        · rw [sI_0.mpr y] at hp; exact absurd (by decide) hp
        · rw [sI_p.mpr y] at hp; exact absurd (by decide) hp
      rw [show (16 : Int32) = nI 16 from rfl, gg_k Q0 (by decide), m16.2, sI_ng] at e130
      rw [e130, show (16 : Int32).toNatClampNeg = 16 from rfl, mw_g] at e133
      rw [e133]
      refine e229 _ (mf_tr f2 (fun x _ hx => ⟨rfl, pk_un (fun y => hx (by omega)), fun _ _ => rfl⟩)) ⟨m15.1, (pk_un (by decide)).trans m15.2⟩ ⟨?_, ?_⟩
      · rw [sg_na]
        have := m16.1
        rw [Int.natAbs_natCast] at this
        exact this
      · rw [pk_us, decide_eq_true hn, sg_t]
  refine ⟨fun ht => e209 G' f' ?_ M16, fun ht => ⟨(mh_Q Q0).1, A.2.2, (mh_Q Q0).2.1.2.2, A.2.2, (mh_Q Q0).2.1.2.2, (mh_Q Q0).2.2.1.2.2, in_g (i := 15) Q0 (by decide), fun v145 e145 => ⟨(mh_Q Q0).2.2.1.2.2, in_g (i := 15) Q0 (by decide), fun h148 e148 => ?_⟩⟩⟩
  · rw [bi_0.mp ht]; exact M15
  · have ht1 : t = true := by
      cases t
      · exact absurd rfl ht
      · rfl
    rw [show (15 : Int32) = nI 15 from rfl, gg_k Q0 (by decide), M15.2, sI_ng] at e145
    rw [e145, show (15 : Int32).toNatClampNeg = 15 from rfl, mw_g] at e148
    rw [e148]
    refine e209 _ (mf_tr f' (fun x _ hx => ⟨rfl, pk_un (fun y => hx (by omega)), fun _ _ => rfl⟩)) ⟨?_, ?_⟩ ⟨M16.1, (pk_un (by decide)).trans M16.2⟩
    · rw [sg_na]
      have := M15.1
      rw [Int.natAbs_natCast] at this
      exact this
    · rw [pk_us, ht1, sg_t]
theorem s_hd4 {a b c d : Int32} {F : Int32 → ah_H → Prop} (h0 : rk_n a < 12 → rk_n b < 12 → rk_n c < 12 → rk_n d < 12 → a ≠ b → F 0 h) (h1 : ¬ (rk_n a < 12 ∧ rk_n b < 12 ∧ rk_n c < 12 ∧ rk_n d < 12 ∧ a ≠ b) → F 1 h) : w_MO_isNone a h (fun r7 h6 => ah_m h h6 → (¬ r7 = 0 → F 1 h6) ∧ (r7 = 0 → w_MO_isNone b h6 (fun r181 h180 => ah_m h6 h180 → (¬ r181 = 0 → F 1 h180) ∧ (r181 = 0 → w_MO_isNone c h180 (fun r185 h184 => ah_m h180 h184 → (¬ r185 = 0 → F 1 h184) ∧ (r185 = 0 → w_MO_isNone d h184 (fun r189 h188 => ah_m h184 h188 → (¬ r189 = 0 → F 1 h188) ∧ (r189 = 0 → ((¬ a = b → F 0 h188) ∧ (a = b → F 1 h188)))))))))) := by
  refine s_isNone (fun e1 _ => ⟨fun hc => absurd rfl hc, fun _ => s_isNone (fun e2 _ => ⟨fun hc => absurd rfl hc, fun _ => s_isNone (fun e3 _ => ⟨fun hc => absurd rfl hc, fun _ => s_isNone (fun e4 _ => ⟨fun hc => absurd rfl hc, fun _ => ⟨fun e5 => h0 e1 e2 e3 e4 e5, fun e5 => h1 (fun y => y.2.2.2.2 e5)⟩⟩) (fun e4 _ => ⟨fun _ => h1 (fun y => e4 y.2.2.2.1), fun hc => absurd hc (by decide)⟩)⟩) (fun e3 _ => ⟨fun _ => h1 (fun y => e3 y.2.2.1), fun hc => absurd hc (by decide)⟩)⟩) (fun e2 _ => ⟨fun _ => h1 (fun y => e2 y.2.1), fun hc => absurd hc (by decide)⟩)⟩) (fun e1 _ => ⟨fun _ => h1 (fun y => e1 y.1), fun hc => absurd hc (by decide)⟩)
theorem sg_of (x : Int) : x = sg_Z (decide (x < 0)) x.natAbs := by
  by_cases hx : x < 0
  · rw [decide_eq_true hx, sg_t]; omega
  · rw [decide_eq_false hx, sg_f]; omega
theorem sI_eq {x y : Int} (hx : x ≠ 0) (hy : y ≠ 0) : sI_n x = sI_n y ↔ decide (x < 0) = decide (y < 0) := by
  rcases Int.lt_trichotomy x 0 with a | a | a
  · rcases Int.lt_trichotomy y 0 with b | b | b
    · rw [sI_m.mpr a, sI_m.mpr b, decide_eq_true a, decide_eq_true b]; exact ⟨fun _ => rfl, fun _ => rfl⟩
    · exact absurd b hy
    · rw [sI_m.mpr a, sI_p.mpr b, decide_eq_true a, decide_eq_false (show ¬ y < 0 by omega)]; decide
  · exact absurd a hx
  · rcases Int.lt_trichotomy y 0 with b | b | b
    · rw [sI_p.mpr a, sI_m.mpr b, decide_eq_false (show ¬ x < 0 by omega), decide_eq_true b]; decide
    · exact absurd b hy
    · rw [sI_p.mpr a, sI_p.mpr b, decide_eq_false (show ¬ x < 0 by omega), decide_eq_false (show ¬ y < 0 by omega)]; exact ⟨fun _ => rfl, fun _ => rfl⟩
theorem q_divide (S : mo_S h m A B z tl f wl g) {q s a b : Int32} {K : ah_H → Prop} (hK : ∀ h' c z', pd_S z q s a b c z' → fm_S m h h' → mo_S h' m A B z' tl f wl g → ah_I h' 4 m = nI c → K h') : w_MO_divide m q s a b h K := by
  have Q := S.1
  have Q0 : mo_Q (ah_sI h 4 m 0) m A := sI_Q Q
  obtain ⟨D, Z, G, e, R⟩ := S.2.2.1
  refine s_hd4 (F := fun s' h => bk_MO_divide_40 K m q s a b s' m h) (fun hq hs ha hb hqs => ⟨Q.1, s_fails0 Q.1 (fun _ => ⟨fun hc => absurd rfl hc, fun _ => ⟨(sI_Q Q).1, ?_⟩⟩)⟩) (fun hn => ⟨Q.1, s_fails1 Q.1 (fun _ => ⟨fun _ => ?_, fun hc => absurd hc (by decide)⟩)⟩)
  · have eb : b &&& (15 : Int32) = nI (rk_n b) := by
      conv => lhs; rw [(rk_ok hb).2.2]
      rw [pk_andN (by omega) 4 (by decide), Nat.mod_eq_of_lt (by omega)]
    have hzb : G (rk_n b) = sI_n (z (rk_n b)) := (R.1 _ hb).1.2
    have hza : G (rk_n a) = sI_n (z (rk_n a)) := (R.1 _ ha).1.2
    have la := (R.1 _ ha).2
    have lb := (R.1 _ hb).2
    rw [mo_s0 e, eb]
    refine ⟨A.2.2, (mh_Q Q0).2.1.2.2, (mh_Q Q0).2.2.1.2.2, in_g Q0 (by omega), fun hz => ⟨(mh_Q Q0).1, s_fails0 (mh_Q Q0).1 (fun _ => ⟨fun _ => ?_, fun hc => absurd rfl hc⟩)⟩, fun hz => ⟨(mh_Q Q0).1, s_fails1 (mh_Q Q0).1 (fun _ => ⟨fun hc => absurd hc (by decide), fun _ => ?_⟩)⟩⟩
    · rw [gg_k Q0 (by omega), hzb] at hz
      have hb0 : z (rk_n b) ≠ 0 := fun y => hz (sI_0.mpr y)
      rw [mh_sI, sI_sI, (rk_ok hq).2.2, (rk_ok hs).2.2, (rk_ok ha).2.2, (rk_ok hb).2.2]
      have hqs' : rk_n s ≠ rk_n q := fun y => hqs (by rw [(rk_ok hq).2.2, (rk_ok hs).2.2, y])
      have zb := rg_sz R hb
      refine ⟨(mh_Q Q0).1, A.2.2, (mh_Q Q0).2.1.2.2, (mh_Q Q0).2.2.1.2.2, in_g Q0 (by omega), fun v57 e57 => ⟨A.2.2, (mh_Q Q0).2.1.2.2, (mh_Q Q0).2.2.1.2.2, in_g Q0 (by omega), fun v62 e62 => ?_⟩⟩
      rw [gg_k Q0 (by omega), hza] at e57
      rw [gg_k Q0 (by omega), hzb] at e62
      rw [e57, e62]
      obtain ⟨X, hX⟩ : ∃ X, X = (z (rk_n a)).natAbs := ⟨_, rfl⟩
      obtain ⟨v, hv⟩ : ∃ v, v = (z (rk_n b)).natAbs := ⟨_, rfl⟩
      have Xr : mr_D D Z (rk_n a) X := by rw [hX]; exact (R.1 _ ha).1.1
      have Vr : mr_D D Z (rk_n b) v := by rw [hv]; exact (R.1 _ hb).1.1
      have hv0 : 0 < v := by omega
      rw [← hX] at la
      rw [← hv] at lb
      have hq0 := Nat.div_le_self X v
      have hr0 := Nat.mod_lt X hv0
      have hdm := Nat.div_add_mod X v
      refine s_quotient Q0 (by omega) (by omega) Xr Vr hv0 (by omega) (fun D1 Z1 G1 f1 M15 M16 _ => ?_)
      obtain ⟨q0, hq0'⟩ : ∃ q0, q0 = X / v := ⟨_, rfl⟩
      obtain ⟨r0, hr0'⟩ : ∃ r0, r0 = X % v := ⟨_, rfl⟩
      rw [← hq0'] at M15 hq0 hdm
      rw [← hr0'] at M16 hr0 hdm
      have f1' : mf_S (fun x => 13 ≤ x) D Z G D1 Z1 G1 := mf_mo f1 (fun x hx => by unfold cd_R at hx; omega)
      have Vr1 : mr_D D1 Z1 (rk_n b) v := mf_mr f1' (by omega) (by omega) Vr
      refine z_copyRow (to := 14) Q0 (by decide) (by omega) Vr1 (fun D2 Z2 G2 f2 M14 _ _ => ⟨A.2.2, (mh_Q Q0).2.1.2.2, (mh_Q Q0).2.2.1.2.2, in_g (i := 14) Q0 (by decide), fun h79 e79 => ?_⟩)
      rw [show (14 : Int32).toNatClampNeg = 14 from rfl, mw_g] at e79
      rw [e79]
      have f2' : mf_S (fun x => 13 ≤ x) D Z G D2 Z2 (upd G2 14 1) := mf_tr f1' (mf_tr (mf_mo f2 (fun x hx => by omega)) (fun x _ hx => ⟨rfl, pk_un (fun y => hx (by omega)), fun _ _ => rfl⟩))
      have fu : mf_S (· = 14) D2 Z2 G2 D2 Z2 (upd G2 14 1) := fun x _ hx => ⟨rfl, pk_un hx, fun _ _ => rfl⟩
      have N15 : mz_D D2 Z2 (upd G2 14 1) 15 (q0 : Int) := mf_mz fu (by decide) (by decide) (mf_mz f2 (by decide) (by decide) M15)
      have N16 : mz_D D2 Z2 (upd G2 14 1) 16 (r0 : Int) := mf_mz fu (by decide) (by decide) (mf_mz f2 (by decide) (by decide) M16)
      have N14 : mz_D D2 Z2 (upd G2 14 1) 14 (v : Int) := ⟨by rw [Int.natAbs_natCast]; exact M14, by rw [pk_us, sI_p.mpr (by omega)]⟩
      have hval : (rk_n q < 12 ∧ rk_n s < 12 ∧ rk_n a < 12 ∧ rk_n b < 12 ∧ q ≠ s) := ⟨hq, hs, ha, hb, hqs⟩
      have ea : z (rk_n a) = sg_Z (decide (z (rk_n a) < 0)) X := by rw [hX]; exact sg_of _
      have eb' : z (rk_n b) = sg_Z (decide (z (rk_n b) < 0)) v := by rw [hv]; exact sg_of _
      have hA : X = q0 * v + r0 := by rw [Nat.mul_comm]; omega
      have flk := fl_k (ga := decide (z (rk_n a) < 0)) (gb := decide (z (rk_n b) < 0)) hv0 hA hr0
      rw [← ea, ← eb'] at flk
      have fin : ∀ (zq zr : Int), fl_D (z (rk_n a)) (z (rk_n b)) zq zr → ∀ h', fm_S m h h' → mo_S h' m A B (zu_n (zu_n z (rk_n q) zq) (rk_n s) zr) tl f wl g → ah_I h' 4 m = 0 → K h' := fun zq zr fl h' a1 a2 a3 => hK h' 0 _ (Or.inl ⟨hval, Or.inr ⟨hb0, rfl, zq, zr, fl, rfl⟩⟩) a1 a2 a3
      have same : fl_D (z (rk_n a)) (z (rk_n b)) (sg_Z false q0) (sg_Z (decide (z (rk_n b) < 0)) r0) → bk_MO_divide_130 K m (nI (rk_n q)) (nI (rk_n s)) (sI_n (z (rk_n b))) (mh_S (ah_sI h 4 m 0) A D2 Z2 (upd G2 14 1)) := fun fl =>
        ⟨fun _ => s_dv_e (t := false) S hq hs hqs' R f2' N15 N16 (by omega) (by omega) (fin _ _ fl), fun hc => absurd rfl hc⟩
      refine ⟨fun hz0 => same ?_, fun hz0 => ⟨fun he => same ?_, fun he => ?_⟩⟩
      · have h0 : z (rk_n a) = 0 := sI_0.mp hz0
        have hX0 : X = 0 := by rw [hX, h0]; rfl
        have : q0 = 0 := by rw [hq0', hX0]; exact Nat.zero_div _
        have h2 : r0 = 0 := by rw [hr0', hX0]; exact Nat.zero_mod _
        rw [this, h2, h0]
        refine ⟨?_, ?_⟩
        · cases decide (z (rk_n b) < 0) <;> simp [sg_Z]
        · have e0 : sg_Z (decide (z (rk_n b) < 0)) 0 = 0 := by cases decide (z (rk_n b) < 0) <;> rfl
          rw [e0]
          omega
      · have ha0 : z (rk_n a) ≠ 0 := fun y => hz0 (sI_0.mpr y)
        exact flk.1 ((sI_eq ha0 hb0).mp he)
      · have ha0 : z (rk_n a) ≠ 0 := fun y => hz0 (sI_0.mpr y)
        have hne : decide (z (rk_n a) < 0) ≠ decide (z (rk_n b) < 0) := fun y => he ((sI_eq ha0 hb0).mpr y)
        refine ⟨fun hc => absurd hc (by decide), fun _ => ⟨(mh_Q Q0).1, A.2.2, (mh_Q Q0).2.1.2.2, (mh_Q Q0).2.2.1.2.2, in_g (i := 16) Q0 (by decide), fun hr => ?_, fun hr => ?_⟩⟩
        · rw [show (16 : Int32) = nI 16 from rfl, gg_k Q0 (by decide), N16.2] at hr
          have hr00 : r0 = 0 := by
            rcases Nat.eq_zero_or_pos r0 with y | y
            · exact y
            · rw [sI_p.mpr (by omega)] at hr; exact absurd hr (by decide)
          exact s_dv_e (t := true) S hq hs hqs' R f2' N15 N16 (by omega) (by omega) (fin _ _ (flk.2.1 hne hr00))
        · rw [show (16 : Int32) = nI 16 from rfl, gg_k Q0 (by decide), N16.2] at hr
          have hr00 : r0 ≠ 0 := fun y => hr (by rw [y]; decide)
          refine z_setRow (r := 13) Q0 (by decide) (fun D3 Z3 G3 f3 M13 _ => ?_)
          have e13 : (1 : Int64).toInt = 1 := by decide
          rw [e13] at M13
          have P15 := mf_mz f3 (by decide) (by decide) N15
          have P16 := mf_mz f3 (by decide) (by decide) N16
          have P14 := mf_mz f3 (by decide) (by decide) N14
          have z15 : Z3 15 ≤ 617 := mr_le P15.1 (by rw [Int.natAbs_natCast]; exact Nat.lt_of_le_of_lt hq0 (Nat.lt_trans la lim_617))
          have z16 : Z3 16 ≤ 617 := mr_le P16.1 (by rw [Int.natAbs_natCast]; exact Nat.lt_trans hr0 (Nat.lt_trans lb lim_617))
          have z14 : Z3 14 ≤ 617 := mr_le P14.1 (by rw [Int.natAbs_natCast]; exact Nat.lt_trans lb lim_617)
          have z13 : Z3 13 ≤ 1 := mr_le M13.1 (by decide)
          refine s_summ (x := 15) (y := 13) (s := 1) Q0 (by decide) (by decide) (Or.inl rfl) P15 M13 (by omega) (by omega) (fun D4 Z4 G4 f4 M4 _ => ?_)
          rw [Int.one_mul] at M4
          refine z_copyRow (to := 15) (fr := 17) Q0 (by decide) (by decide) M4.1 (fun D5 Z5 G5 f5 M5 g5 _ => ?_)
          have R14 := mf_mz f5 (by decide) (by decide) (mf_mz f4 (by decide) (by decide) P14)
          have R16 := mf_mz f5 (by decide) (by decide) (mf_mz f4 (by decide) (by decide) P16)
          have R15 : mz_D D5 Z5 G5 15 ((q0 + 1 : Nat) : Int) := ⟨by
            have : ((q0 : Int) + 1).natAbs = ((q0 + 1 : Nat) : Int).natAbs := by omega
            rw [← this]; exact M5, by rw [g5, M4.2]; rfl⟩
          have y14 : Z5 14 ≤ 617 := mr_le R14.1 (by rw [Int.natAbs_natCast]; exact Nat.lt_trans lb lim_617)
          have y16 : Z5 16 ≤ 617 := mr_le R16.1 (by rw [Int.natAbs_natCast]; exact Nat.lt_trans hr0 (Nat.lt_trans lb lim_617))
          refine s_summ (x := 14) (y := 16) (s := -1) Q0 (by decide) (by decide) (Or.inr rfl) R14 R16 (by omega) (by omega) (fun D6 Z6 G6 f6 M6 _ => ?_)
          have e6 : (v : Int) + -1 * (r0 : Int) = ((v - r0 : Nat) : Int) := by omega
          rw [e6] at M6
          refine z_copyRow (to := 16) (fr := 17) Q0 (by decide) (by decide) M6.1 (fun D7 Z7 G7 f7 M7 g7 _ => ?_)
          have T15 := mf_mz f7 (by decide) (by decide) (mf_mz f6 (by decide) (by decide) R15)
          have T16 : mz_D D7 Z7 G7 16 ((v - r0 : Nat) : Int) := ⟨M7, g7.trans M6.2⟩
          have fall : mf_S (fun x => 13 ≤ x) D Z G D7 Z7 G7 := mf_tr f2' (mf_tr (mf_mo f3 (fun x hx => by omega)) (mf_tr (mf_mo f4 (fun x hx => by omega)) (mf_tr (mf_mo f5 (fun x hx => by omega)) (mf_tr (mf_mo f6 (fun x hx => by omega)) (mf_mo f7 (fun x hx => by omega))))))
          have hq1 : q0 + 1 ≤ X := by
            have h9 : q0 ≤ q0 * v := Nat.le_mul_of_pos_right _ hv0
            omega
          exact s_dv_e (t := true) S hq hs hqs' R fall T15 T16 (by omega) (by omega) (fin _ _ (flk.2.2 hne hr00))
    · rw [gg_k Q0 (by omega), hzb] at hz
      rw [mh_sI, sI_sI]
      obtain ⟨a1, a2, a3⟩ := mo_fin S (c := 2) R
      exact hK _ 2 z (Or.inl ⟨⟨hq, hs, ha, hb, hqs⟩, Or.inl ⟨sI_0.mp hz, rfl, rfl⟩⟩) a1 a2 a3
  · rw [mo_s0 e]
    obtain ⟨a1, a2, a3⟩ := mo_fin S (c := 1) R
    exact hK _ 1 z (Or.inr ⟨hn, rfl, rfl⟩) a1 a2 a3
end MP1
