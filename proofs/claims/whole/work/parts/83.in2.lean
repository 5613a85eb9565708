section IN2
variable {h h' h'' : ah_H} {a k t n x rg i d : Nat} {W q V : Nat → Nat}
/-- old cells, but d -/
def od_S (d : Nat) (h h' : ah_H) : Prop := ∀ y, ah_T h y ≠ 0 → y ≠ d → sa_S h h' y
theorem st_od (S : st_S h x rg i k W q n V) (o : od_S d h h') (hx : x ≠ d) (hg : rg ≠ d) {W' q' : Nat → Nat} {k' : Nat} (hb : bu_S h' k' W' q') (hW : ∀ j, j < i → W' j = W j) : st_S h' x rg i k' W' q' n V := by
  have ox := o x (by rw [S.1]; decide) hx
  have og := o rg (by rw [S.2.2.1.1]; decide) hg
  exact ⟨ox.1.trans S.1, fun j hj => (ox.2.2.2.1 _).trans (S.2.1 j hj), ⟨og.1.trans S.2.2.1.1, og.2.1.trans S.2.2.1.2.1, fun j hj => by rw [og.2.2.2.2.2.2, hW j hj]; exact S.2.2.1.2.2 j hj⟩, hb⟩
/-- a field of the object d becomes a new Whole -/
theorem fw_S {td fn : Nat} (hd : ah_T h d = td) (ht : td ≠ 0 ∧ td ≠ 3 ∧ td ≠ 110) (H : bu_S h k W q) (ha : ah_T h a = 0) {K : ah_H → Prop} (hK : ∀ (h7 : ah_H) (p : Nat), ah_T h7 d = td → bu_S (ah_sR h7 fn d (some a)) (k + 1) (dg_u W k a) (dg_u q k p) → (∀ f', f' ≠ fn → ah_R (ah_sR h7 fn d (some a)) f' d = ah_R h f' d) → ah_R (ah_sR h7 fn d (some a)) fn d = some a → ah_T (ah_sR h7 fn d (some a)) d = td → od_S d h (ah_sR h7 fn d (some a)) → K h7) : w_WH_init a (ah_new h a 3 0) K := by
  refine bu_new H ha (fun h7 p hb o _ => ?_)
  have od := o d (by rw [hd]; exact ht.1)
  refine hK h7 p (od.1.trans hd) (sa_bu hb (fun y hy => sa_sR (fun e => by rw [e, od.1, hd] at hy; omega))) (fun f' hf => ?_) ?_ ?_ (fun y hy hyd => sa_tr (o y hy) (sa_sR hyd))
  · rw [sR_R, u2_k _ _ hf]; exact od.2.2.2.1 f'
  · rw [sR_R]; exact u2_s _ _ _ _
  · rw [sR_T]; exact od.1.trans hd
theorem s_DV_init (S : st_S h x rg 12 14 W q n V) {d : Nat} (hd : ah_T h d = 0) {K : ah_H → Prop} (hK : ∀ (h' : ah_H) (W' q' : Nat → Nat), st_S h' x rg 12 17 W' q' n V → (∀ j, j < 14 → W' j = W j) → dv_S h' d (W' 14) (W' 15) (W' 16) → ol_S h h' → K h') : w_DV_init d (ah_new h d 2 0) K := by
  have hxd : x ≠ d := fun e => by have := S.1; rw [e, hd] at this; omega
  have hgd : rg ≠ d := fun e => by have := S.2.2.1.1; rw [e, hd] at this; omega
  have o1 : ol_S h (ah_new h d 2 0) := fun y hy => sa_nw (fun e => hy (by rw [e]; exact hd))
  have t1 : ah_T (ah_new h d 2 0) d = 2 := by rw [nw_T, va_up_self]
  have b1 : bu_S (ah_new h d 2 0) 14 W q := sa_bu S.2.2.2 (fun y hy => o1 y (by omega))
  have ht : (2 : Nat) ≠ 0 ∧ (2 : Nat) ≠ 3 ∧ (2 : Nat) ≠ 110 := by decide
  intro a1 ha1 h4 e4
  rw [e4]
  refine fw_S (fn := 2) t1 ht b1 ha1 (fun h7 p1 t7 b2 r2 r2' t2 o2 _ => ⟨t7, fun h11 e11 a2 ha2 h17 e17 => ?_⟩)
  rw [← e11] at b2 r2 r2' t2 o2
  rw [e17]
  refine fw_S (fn := 3) t2 ht b2 ha2 (fun h22 p2 _ b3 r3 r3' t3 o3 _ h27 e27 a3 ha3 h34 e34 => ?_)
  rw [← e27] at b3 r3 r3' t3 o3
  rw [e34]
  refine fw_S (fn := 4) t3 ht b3 ha3 (fun h40 p3 _ b4 r4 r4' t4 o4 _ h46 e46 => ?_)
  rw [← e46] at b4 r4 r4' t4 o4
  have oo : ∀ y, ah_T h y ≠ 0 → sa_S h h46 y := fun y hy => by
    have hyd : y ≠ d := fun e => hy (by rw [e]; exact hd)
    have s1 := o1 y hy
    have s2 := o2 y (by rw [s1.1]; exact hy) hyd
    have s3 := o3 y (by rw [s2.1, s1.1]; exact hy) hyd
    exact sa_tr s1 (sa_tr s2 (sa_tr s3 (o4 y (by rw [s3.1, s2.1, s1.1]; exact hy) hyd)))
  refine hK h46 _ _ (st_ol S oo b4 (fun j hj => ?_)) (fun j hj => ?_) ⟨t4, ?_, ?_, ?_⟩ oo
  · rw [dg_un (by omega), dg_un (by omega), dg_un (by omega)]
  · rw [dg_un (by omega), dg_un (by omega), dg_un (by omega)]
  · rw [r4 2 (by decide), r3 2 (by decide), r2', dg_un (by decide), dg_un (by decide), dg_us]
  · rw [r4 3 (by decide), r3', dg_un (by decide), dg_us]
  · rw [r4', dg_us]
theorem s_CD_init (S : st_S h x rg 12 17 W q n V) {d : Nat} (hd : ah_T h d = 0) {K : ah_H → Prop} (hK : ∀ (h' : ah_H) (W' q' : Nat → Nat), st_S h' x rg 12 19 W' q' n V → (∀ j, j < 17 → W' j = W j) → cd_S h' d (W' 17) (W' 18) → ol_S h h' → K h') : w_CD_init d (ah_new h d 1 0) K := by
  have hxd : x ≠ d := fun e => by have := S.1; rw [e, hd] at this; omega
  have hgd : rg ≠ d := fun e => by have := S.2.2.1.1; rw [e, hd] at this; omega
  have o1 : ol_S h (ah_new h d 1 0) := fun y hy => sa_nw (fun e => hy (by rw [e]; exact hd))
  have t1 : ah_T (ah_new h d 1 0) d = 1 := by rw [nw_T, va_up_self]
  have b1 : bu_S (ah_new h d 1 0) 17 W q := sa_bu S.2.2.2 (fun y hy => o1 y (by omega))
  have ht : (1 : Nat) ≠ 0 ∧ (1 : Nat) ≠ 3 ∧ (1 : Nat) ≠ 110 := by decide
  intro a1 ha1 h4 e4
  rw [e4]
  refine fw_S (fn := 0) t1 ht b1 ha1 (fun h7 p1 t7 b2 r2 r2' t2 o2 _ => ⟨t7, fun h11 e11 a2 ha2 h17 e17 => ?_⟩)
  rw [← e11] at b2 r2 r2' t2 o2
  rw [e17]
  refine fw_S (fn := 1) t2 ht b2 ha2 (fun h22 p2 _ b3 r3 r3' t3 o3 _ h27 e27 => ?_)
  rw [← e27] at b3 r3 r3' t3 o3
  have oo : ∀ y, ah_T h y ≠ 0 → sa_S h h27 y := fun y hy => by
    have hyd : y ≠ d := fun e => hy (by rw [e]; exact hd)
    have s1 := o1 y hy
    have s2 := o2 y (by rw [s1.1]; exact hy) hyd
    exact sa_tr s1 (sa_tr s2 (o3 y (by rw [s2.1, s1.1]; exact hy) hyd))
  refine hK h27 _ _ (st_ol S oo b3 (fun j hj => ?_)) (fun j hj => ?_) ⟨t3, ?_, ?_⟩ oo
  · rw [dg_un (by omega), dg_un (by omega)]
  · rw [dg_un (by omega), dg_un (by omega)]
  · rw [r3 0 (by decide), r2', dg_un (by decide), dg_us]
  · rw [r3', dg_us]
/-- the same objects in other cells' company -/
theorem sa_dv {Q R S : Nat} (H : dv_S h d Q R S) (s : sa_S h h' d) : dv_S h' d Q R S := by
  unfold dv_S at *
  rw [s.1, s.2.2.2.1, s.2.2.2.1, s.2.2.2.1]; exact H
theorem sa_cd {Q R : Nat} (H : cd_S h d Q R) (s : sa_S h h' d) : cd_S h' d Q R := by
  unfold cd_S at *
  rw [s.1, s.2.2.2.1, s.2.2.2.1]; exact H
/-- new BigDesk() -/
theorem s_BD_init (hx : ah_T h x = 0) {K : ah_H → Prop} (hK : ∀ (h' : ah_H) (W q : Nat → Nat) (C : Nat × Nat × Nat × Nat × Nat), dk_S h' x W q C (fun _ => 0) 0 (fun _ => 0) 0 (fun _ => 0) → K h') : w_BD_init x (ah_new h x 4 0) K := by
  intro rg hrg h4 e4
  have hgx : rg ≠ x := fun e => by
    rw [e, nw_T, va_up_self] at hrg
    exact absurd hrg (by decide)
  refine ⟨by rw [e4, nw_T, va_up_ne _ _ hgx.symm, nw_T, va_up_self], fun h8 e8 => ?_⟩
  have S0 : st_S h8 x rg 0 0 (fun _ => 0) (fun _ => 0) 1 (fun _ => rg) := by
    refine ⟨by rw [e8, sR_T, e4, nw_T, va_up_ne _ _ hgx.symm, nw_T, va_up_self], fun j hj => ?_, ⟨by rw [e8, sR_T, e4, nw_T, va_up_self], by rw [e8, sR_N, e4, nw_N, va_up_self], fun j hj => absurd hj (Nat.not_lt_zero _)⟩, fun j hj => absurd hj (Nat.not_lt_zero _), fun j _ hj => absurd hj (Nat.not_lt_zero _), fun j _ hj => absurd hj (Nat.not_lt_zero _)⟩
    have : j = 0 := by omega
    subst this
    rw [e8, sR_R]; exact u2_s _ _ _ _
  refine st_reg S0 rfl (by decide) rfl (fun h1 W1 q1 S1 => ?_)
  refine st_reg S1 rfl (by decide) rfl (fun h2 W2 q2 S2 => ?_)
  refine st_reg S2 rfl (by decide) rfl (fun h3 W3 q3 S3 => ?_)
  refine st_reg S3 rfl (by decide) rfl (fun h4 W4 q4 S4 => ?_)
  refine st_reg S4 rfl (by decide) rfl (fun h5 W5 q5 S5 => ?_)
  refine st_reg S5 rfl (by decide) rfl (fun h6 W6 q6 S6 => ?_)
  refine st_reg S6 rfl (by decide) rfl (fun h7 W7 q7 S7 => ?_)
  refine st_reg S7 rfl (by decide) rfl (fun h8 W8 q8 S8 => ?_)
  refine st_reg S8 rfl (by decide) rfl (fun h9 W9 q9 S9 => ?_)
  refine st_reg S9 rfl (by decide) rfl (fun h10 W10 q10 S10 => ?_)
  refine st_reg S10 rfl (by decide) rfl (fun h11 W11 q11 S11 => ?_)
  refine st_reg S11 rfl (by decide) rfl (fun h12 W12 q12 S12 => ?_)
  clear S0 S1 S2 S3 S4 S5 S6 S7 S8 S9 S10 S11
  -- made, small
  intro am ham hm em
  rw [em]
  refine bu_new S12.2.2.2 ham (fun h13 pm b13 o13 _ _ h13' e13' as has hs es => ?_)
  have S13 : st_S h13' x rg 12 13 (dg_u W12 12 am) (dg_u q12 12 pm) 2 (dg_u (fun _ => rg) 1 am) := by
    rw [e13']
    exact st_sR (n := 1) (st_ol S12 o13 b13 (fun j hj => dg_un (by omega)))
  rw [es]
  refine bu_new S13.2.2.2 has (fun h14 ps b14 o14 _ _ h14' e14' ad had hd ed => ?_)
  obtain ⟨W14, q14, V14, S14, v0, v1, v2⟩ : ∃ W q V, st_S h14' x rg 12 14 W q 3 V ∧ V 0 = rg ∧ V 1 = W 12 ∧ V 2 = W 13 := by
    refine ⟨dg_u (dg_u W12 12 am) 13 as, dg_u (dg_u q12 12 pm) 13 ps, dg_u (dg_u (fun _ => rg) 1 am) 2 as, ?_, rfl, ?_, ?_⟩
    · rw [e14']
      exact st_sR (n := 2) (st_ol S13 o14 b14 (fun j hj => dg_un (by omega)))
    · rw [dg_un (by decide), dg_us, dg_un (by decide), dg_us]
    · rw [dg_us, dg_us]
  clear S12 S13
  -- division, common divisor
  rw [ed]
  refine s_DV_init S14 had (fun h17 W17 q17 S17 w17 D17 o17 _ h17' e17' ac hac hc ec => ?_)
  have hxd : ad ≠ x := fun e => by have := S14.1; rw [← e, had] at this; omega
  have hgd : ad ≠ rg := fun e => by have := S14.2.2.1.1; rw [← e, had] at this; omega
  have T17 : st_S h17' x rg 12 17 W17 q17 4 (dg_u V14 3 ad) := by rw [e17']; exact st_sR (n := 3) S17
  have D17' : dv_S h17' ad (W17 14) (W17 15) (W17 16) := by rw [e17']; exact sa_dv D17 (sa_sR hxd)
  rw [ec]
  refine s_CD_init T17 hac (fun h19 W19 q19 S19 w19 C19 o19 _ h19' e19' ap hap hp ep hp' ep' hp2 ep2 aw haw hw ew hw' ew' hw2 ew2 => ?_)
  have hxc : ac ≠ x := fun e => by have := T17.1; rw [← e, hac] at this; omega
  have T19 : st_S h19' x rg 12 19 W19 q19 5 (dg_u (dg_u V14 3 ad) 4 ac) := by rw [e19']; exact st_sR (n := 4) S19
  have D19 : dv_S h19' ad (W19 14) (W19 15) (W19 16) := by
    rw [e19', w19 14 (by decide), w19 15 (by decide), w19 16 (by decide)]
    exact sa_dv (sa_dv D17' (o19 ad (by rw [D17'.1]; decide))) (sa_sR hxd)
  have C19' : cd_S h19' ac (W19 17) (W19 18) := by rw [e19']; exact sa_cd C19 (sa_sR hxc)
  -- tape, written
  have oP : ol_S h19' hp := fun y hy => by rw [ep]; exact sa_nw (fun e => hy (by rw [e]; exact hap))
  have hxp : ap ≠ x := fun e => by have := T19.1; rw [← e, hap] at this; omega
  have TP : st_S hp' x rg 12 19 W19 q19 6 (dg_u (dg_u (dg_u V14 3 ad) 4 ac) 5 ap) := by
    rw [ep']
    exact st_sR (n := 5) (st_ol T19 oP (sa_bu T19.2.2.2 (fun y hy => oP y (by omega))) (fun _ _ => rfl))
  have sP2 : ∀ y, y ≠ x → sa_S hp hp2 y := fun y hy => by
    rw [ep2, ep']; exact sa_tr (sa_sR hy) (sa_sI hy)
  have TP2 : st_S hp2 x rg 12 19 W19 q19 6 (dg_u (dg_u (dg_u V14 3 ad) 4 ac) 5 ap) := by
    rw [ep2]
    have hgx' : rg ≠ x := hgx
    exact ⟨by rw [sI_T]; exact TP.1, fun j hj => by rw [sI_R]; exact TP.2.1 j hj, by rw [sI_T, sI_N, sI_bR]; exact TP.2.2.1, sa_bu TP.2.2.2 (fun y hy => sa_sI (fun e => by rw [e, TP.1] at hy; omega))⟩
  have t2 : ah_T hp2 ap = 101 := by rw [(sP2 ap hxp).1, ep, nw_T, va_up_self]
  have n2 : ah_N hp2 ap = 2600 := by rw [(sP2 ap hxp).2.1, ep, nw_N, va_up_self]
  have z2 : ah_bI hp2 ap = fun _ => 0 := by rw [(sP2 ap hxp).2.2.2.2.1, ep, nw_bI, va_up_self]
  have i2 : ah_I hp2 2 x = nI 0 := by rw [ep2, sI_I]; exact u2_s _ _ _ _
  have oW : ol_S hp2 hw := fun y hy => by rw [ew]; exact sa_nw (fun e => hy (by rw [e]; exact haw))
  have hxw : aw ≠ x := fun e => by have := TP2.1; rw [← e, haw] at this; omega
  have hpw : ap ≠ aw := fun e => by rw [e, haw] at t2; omega
  have TW : st_S hw' x rg 12 19 W19 q19 7 (dg_u (dg_u (dg_u (dg_u V14 3 ad) 4 ac) 5 ap) 6 aw) := by
    rw [ew']
    exact st_sR (n := 6) (st_ol TP2 oW (sa_bu TP2.2.2.2 (fun y hy => oW y (by omega))) (fun _ _ => rfl))
  have TF : st_S hw2 x rg 12 19 W19 q19 7 (dg_u (dg_u (dg_u (dg_u V14 3 ad) 4 ac) 5 ap) 6 aw) := by
    rw [ew2]
    exact ⟨by rw [sI_T]; exact TW.1, fun j hj => by rw [sI_R]; exact TW.2.1 j hj, by rw [sI_T, sI_N, sI_bR]; exact TW.2.2.1, sa_bu TW.2.2.2 (fun y hy => sa_sI (fun e => by rw [e, TW.1] at hy; omega))⟩
  have sF : ∀ y, ah_T h19' y ≠ 0 → y ≠ x → sa_S h19' hw2 y := fun y hy hyx => by
    have s1 := oP y hy
    have s2 := sP2 y hyx
    have s3 := oW y (by rw [s2.1, s1.1]; exact hy)
    rw [ew2, ew']
    exact sa_tr s1 (sa_tr s2 (sa_tr s3 (sa_tr (sa_sR hyx) (sa_sI hyx))))
  have sG : ∀ y, y ≠ x → sa_S hw hw2 y := fun y hy => by rw [ew2, ew']; exact sa_tr (sa_sR hy) (sa_sI hy)
  have sAp : sa_S hp2 hw2 ap := sa_tr (oW ap (by rw [t2]; decide)) (sG ap hxp)
  have hxd' : ad ≠ x := hxd
  have DF := sa_dv D19 (sF ad (by rw [D19.1]; decide) hxd)
  have CF := sa_cd C19' (sF ac (by rw [C19'.1]; decide) hxc)
  have rr := TF.2.1
  have wz : ∀ i, i < 19 → wh_S hw2 (W19 i) (q19 i) 0 false (fun _ => 0) := TF.2.2.2.1
  have cz : cn_D (fun _ => 0) 0 := ⟨fun _ => (by decide : (0 : Nat) < 4294967296), fun _ _ => rfl, Or.inl rfl, by decide⟩
  have r6 := rr 0 (by decide)
  have r7 := rr 1 (by decide)
  have r8 := rr 2 (by decide)
  have r9 := rr 3 (by decide)
  have r10 := rr 4 (by decide)
  have r11 := rr 5 (by decide)
  have r12 := rr 6 (by decide)
  rw [dg_un (by decide), dg_un (by decide), dg_un (by decide), dg_un (by decide), v0] at r6
  rw [dg_un (by decide), dg_un (by decide), dg_un (by decide), dg_un (by decide), v1, ← w17 12 (by decide), ← w19 12 (by decide)] at r7
  rw [dg_un (by decide), dg_un (by decide), dg_un (by decide), dg_un (by decide), v2, ← w17 13 (by decide), ← w19 13 (by decide)] at r8
  rw [dg_un (by decide), dg_un (by decide), dg_un (by decide), dg_us] at r9
  rw [dg_un (by decide), dg_un (by decide), dg_us] at r10
  rw [dg_un (by decide), dg_us] at r11
  rw [dg_us] at r12
  refine hK hw2 W19 q19 (rg, ad, ac, ap, aw) ⟨⟨TF.1, ⟨r6, r7, r8, r9, r10, r11, r12⟩, TF.2.2.1, DF, CF.1, ⟨sAp.1.trans t2, sAp.2.1.trans n2⟩, ⟨?_, ?_⟩, hpw, fun i hi => (wz i hi).1, TF.2.2.2.2.1, TF.2.2.2.2.2⟩, ⟨⟨_, _, _, _, CF, Or.inl ⟨rfl, rfl, rfl, rfl⟩⟩, fun i hi => ⟨⟨0, false, fun _ => 0, wz i (by omega), cz, fun y => Bool.noConfusion y, rfl⟩, lim_pos⟩, fun i _ hi => ⟨0, false, fun _ => 0, wz i hi, cz⟩⟩, ⟨?_, by decide, fun _ => (by decide : (0 : Nat) < 256), fun k _ => ?_⟩, ⟨?_, by decide, fun i hi => absurd hi (Nat.not_lt_zero _)⟩⟩
  · show ah_T hw2 aw = 101
    rw [(sG aw hxw).1, ew, nw_T, va_up_self]
  · show ah_N hw2 aw = 2468
    rw [(sG aw hxw).2.1, ew, nw_N, va_up_self]
  · rw [ew2, sI_I, u2_k _ _ (by decide), ew', sR_I, (oW x (by rw [TP2.1]; decide)).2.2.1 2]
    exact i2
  · show ah_bI hw2 ap k = by_n 0
    rw [sAp.2.2.2.2.1, z2]; rfl
  · rw [ew2, sI_I]; exact u2_s _ _ _ _
/-- old cells keep the desk -/
theorem ol_dk {C : Nat × Nat × Nat × Nat × Nat} {z : Nat → Int} {tl wl : Nat} {f : Nat → Nat} {g : Nat → Int32} (D : dk_S h x W q C z tl f wl g) (o : ol_S h h') : dk_S h' x W q C z tl f wl g := by
  obtain ⟨Q, ⟨c, w2, w3⟩, t, w⟩ := D
  have ox := o x (by rw [Q.1]; decide)
  have og := o C.1 (by rw [Q.2.2.1.1]; decide)
  have od := o C.2.1 (by rw [Q.2.2.2.1.1]; decide)
  have oc := o C.2.2.1 (by rw [Q.2.2.2.2.1]; decide)
  have op := o C.2.2.2.1 (by rw [Q.2.2.2.2.2.1.1]; decide)
  have ow := o C.2.2.2.2 (by rw [Q.2.2.2.2.2.2.1.1]; decide)
  have oW : ∀ i, i < 19 → sa_S h h' (W i) ∧ sa_S h h' (q i) := fun i hi => ⟨o _ (by rw [(Q.2.2.2.2.2.2.2.2.1 i hi).1]; decide), o _ (by rw [(Q.2.2.2.2.2.2.2.2.1 i hi).2.2.1]; decide)⟩
  refine ⟨⟨ox.1.trans Q.1, ?_, ?_, sa_dv Q.2.2.2.1 od, oc.1.trans Q.2.2.2.2.1, ⟨op.1.trans Q.2.2.2.2.2.1.1, op.2.1.trans Q.2.2.2.2.2.1.2⟩, ⟨ow.1.trans Q.2.2.2.2.2.2.1.1, ow.2.1.trans Q.2.2.2.2.2.2.1.2⟩, Q.2.2.2.2.2.2.2.1, fun i hi => ?_, Q.2.2.2.2.2.2.2.2.2⟩, ⟨?_, fun i hi => ⟨?_, (w2 i hi).2⟩, fun i a b => ?_⟩, ?_, ?_⟩
  · rw [ox.2.2.2.1, ox.2.2.2.1, ox.2.2.2.1, ox.2.2.2.1, ox.2.2.2.1, ox.2.2.2.1, ox.2.2.2.1]; exact Q.2.1
  · rw [og.1, og.2.1, og.2.2.2.2.2.2]; exact Q.2.2.1
  · have := Q.2.2.2.2.2.2.2.2.1 i hi
    unfold wq_S at *
    rw [(oW i hi).1.1, (oW i hi).1.2.2.2.1, (oW i hi).2.1, (oW i hi).2.2.1]; exact this
  · obtain ⟨X, qX, Y, qY, c1, c2⟩ := c
    exact ⟨X, qX, Y, qY, sa_cd c1 oc, c2⟩
  · obtain ⟨n, b, d, H1, H2⟩ := (w2 i hi).1
    exact ⟨n, b, d, sa_wh H1 (oW i (by omega)).1 (oW i (by omega)).2, H2⟩
  · obtain ⟨n, b', d, H1, H2⟩ := w3 i a b
    exact ⟨n, b', d, sa_wh H1 (oW i b).1 (oW i b).2, H2⟩
  · rw [ox.2.2.1, op.2.2.2.2.1]; exact t
  · rw [ox.2.2.1, ow.2.2.2.2.1]; exact w
end IN2
