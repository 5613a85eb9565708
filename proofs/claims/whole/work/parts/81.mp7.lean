section MP7
variable {h : ah_H} {m : Nat} {A : Nat × Nat × Nat} {D Z : Nat → Nat} {G : Nat → Int32} {B : Nat × Nat} {z : Nat → Int} {tl wl : Nat} {f : Nat → Nat} {g : Nat → Int32}
/-- write(a) -/
theorem q_write (S : mo_S h m A B z tl f wl g) {a : Int32} {K : Int32 → ah_H → Prop} (h1 : ¬ rk_n a < 12 → ∀ h', mc_S h m A B z tl f wl g 1 h' → K 0 h') (k0 : rk_n a < 12 → ∀ (h' : ah_H) (wl' : Nat) (g' : Nat → Int32), wl' ≤ 2468 → tw_S (decide (z (rk_n a) < 0)) (z (rk_n a)).natAbs wl' g' → mo_S h' m A B z tl f wl' g' → fm_S m h h' → ah_I h' 4 m = 0 → K (nI wl') h') : w_MO_write m a h K := by
  have Q := S.1
  have T := S.2.1
  obtain ⟨F0, S0, I0⟩ := mc_c S 0
  have Q0 : mo_Q (ah_sI h 4 m 0) m A := sI_Q Q
  have T0 := S0.2.1
  obtain ⟨D, Z, G, e, R⟩ := S.2.2.1
  have e0 : ah_sI h 4 m 0 = mh_S (ah_sI h 4 m 0) A D Z G := mo_s0 e
  refine s_isNone (fun ha _ => ⟨Q.1, s_fails0 Q.1 (fun _ => ⟨fun _ h12 e12 => ?_, fun hc => absurd rfl hc⟩)⟩) (fun ha _ => ⟨Q.1, s_fails1 Q.1 (fun _ => ⟨fun hc => absurd hc (by decide), fun _ => h1 ha _ (mc_c S 1)⟩)⟩)
  have K0 := k0 ha
  have H := (R.1 _ ha).1
  have hu := (R.1 _ ha).2
  have hz := H.1.1
  have n1 := T.2.2.2.2.1.1
  have n2 := T.2.2.2.2.1.2.1
  have n3 := T.2.2.2.2.1.2.2
  have e12' : h12 = mh_S (sy_S (ah_sI h 4 m 0) m B.2 0 (ah_bI (ah_sI h 4 m 0) B.2)) A D Z G := by
    rw [e12]
    unfold sy_S
    rw [cI_id, nI_0, ← mh_sI, ← e0]
  rw [e12', (rk_ok ha).2.2]
  have r17 : ah_R (ah_sI h 4 m 0) 17 m = some B.2 := T0.1.2
  have t17 : ah_T (ah_sI h 4 m 0) B.2 = 100 := T0.2.1.2
  have nn17 : ah_N (ah_sI h 4 m 0) B.2 = 2600 := T0.2.2.1.2
  -- the end
  have fin : ∀ (w : Nat) (F : Nat → Int32), w ≤ 2468 → tw_S (decide (z (rk_n a) < 0)) (z (rk_n a)).natAbs w F → K (ah_I (mh_S (sy_S (ah_sI h 4 m 0) m B.2 w F) A D Z G) 6 m) (mh_S (sy_S (ah_sI h 4 m 0) m B.2 w F) A D Z G) := by
    intro w F hw ht
    have eI : ah_I (mh_S (sy_S (ah_sI h 4 m 0) m B.2 w F) A D Z G) = ah_u2 (ah_I (ah_sI h 4 m 0)) 6 m (nI w) := by rw [mh_I]; unfold sy_S; rw [sI_I, cI_I]
    have eb : ∀ y, y ≠ A.1 → y ≠ A.2.1 → y ≠ A.2.2 → ah_bI (mh_S (sy_S (ah_sI h 4 m 0) m B.2 w F) A D Z G) y = va_up (ah_bI (ah_sI h 4 m 0)) B.2 F y := fun y y1 y2 y3 => by rw [mh_o y1 y2 y3]; unfold sy_S; rw [sI_bI, cI_bI]
    have d1 : ah_bI (ah_sI h 4 m 0) A.1 = iw_n D := by rw [e0]; exact mh_d Q0
    have d2 : ah_bI (ah_sI h 4 m 0) A.2.1 = iw_n Z := by rw [e0]; exact mh_z Q0
    have d3 : ah_bI (ah_sI h 4 m 0) A.2.2 = G := by rw [e0]; exact mh_g
    rw [eI, u2_s]
    refine K0 _ w F hw ht (mo_new S0 ?_ ?_ (fun k => ?_) ((mh_d (sy_Q Q0)).trans d1.symm) ((mh_z (sy_Q Q0)).trans d2.symm) (mh_g.trans d3.symm) ⟨by rw [eI, u2_k _ _ (by decide)]; exact S0.2.2.2.1.1, S0.2.2.2.1.2.1, fun k hk => ?_⟩ ⟨by rw [eI]; exact u2_s _ _ _ _, by omega, fun i hi => ?_⟩) ⟨?_, ?_, ?_, ?_, ?_, ?_, fun k y hy => ?_, fun y hy => ?_⟩ (by rw [eI, u2_k _ _ (by decide)]; exact I0)
    · rw [mh_T]; unfold sy_S; rw [sI_T, cI_T]
    · rw [mh_N]; unfold sy_S; rw [sI_N, cI_N]
    · rw [mh_R]; unfold sy_S; rw [sI_R, cI_R]
    · rw [eb _ T.2.2.2.1.1 T.2.2.2.1.2.1 T.2.2.2.1.2.2, va_up_ne _ _ T.2.2.2.2.2]
      exact S0.2.2.2.1.2.2 k hk
    · rw [eb _ n1 n2 n3, va_up_self]
    · rw [mh_T]; unfold sy_S; rw [sI_T, cI_T, sI_T]
    · rw [mh_N]; unfold sy_S; rw [sI_N, cI_N, sI_N]
    · rw [mh_L]; unfold sy_S; rw [sI_L, cI_L, sI_L]
    · rw [mh_R]; unfold sy_S; rw [sI_R, cI_R, sI_R]
    · rw [mh_bL]; unfold sy_S; rw [sI_bL, cI_bL, sI_bL]
    · rw [mh_bR]; unfold sy_S; rw [sI_bR, cI_bR, sI_bR]
    · rw [eI, u2_a _ _ hy]; exact F0.2.2.2.2.2.2.1 k y hy
    · rw [eb y (fun w => hy (by rw [w]; exact Q.2.2.1.1)) (fun w => hy (by rw [w]; exact Q.2.2.1.2.1)) (fun w => hy (by rw [w]; exact Q.2.2.1.2.2)), va_up_ne _ _ (fun w => hy (by rw [w]; exact T.2.1.2)), sI_bI]
  -- from the digits on
  have e49 : ∀ (w : Nat) (F : Nat → Int32), tv_S (decide (z (rk_n a) < 0)) 0 w F → z (rk_n a) ≠ 0 → bk_MO_write_49 K m (nI (rk_n a)) (mh_S (sy_S (ah_sI h 4 m 0) m B.2 w F) A D Z G) := by
    intro w F hv hne
    refine ⟨(mh_Q (sy_Q Q0)).1, A.2.1, (mh_Q (sy_Q Q0)).2.1.2.1, (mh_Q (sy_Q Q0)).2.2.1.2.1, in_z (sy_Q Q0) (by omega), fun v37 e37 => ⟨Z (rk_n a) + 1, ?_⟩⟩
    rw [gz_k (sy_Q Q0) (by omega)] at e37
    rw [e37]
    refine s_wr_a Q0 r17 t17 nn17 n1 n2 n3 (by omega) H.1 hu (fun w' F' hv' => ⟨(mh_Q (sy_Q Q0)).1, fin w' F' (tv_w hv' hu) ?_⟩) (Z (rk_n a)) w F (Nat.le_refl _) (by rw [du_n]; exact hv)
    rcases hv' with y | y
    · exact absurd y.1 (by omega)
    · exact y.2
  have e34 : ∀ (w : Nat) (F : Nat → Int32), tv_S (decide (z (rk_n a) < 0)) 0 w F → bk_MO_write_34 K m (nI (rk_n a)) (mh_S (sy_S (ah_sI h 4 m 0) m B.2 w F) A D Z G) := by
    intro w F hv
    refine ⟨(mh_Q (sy_Q Q0)).1, A.2.2, (mh_Q (sy_Q Q0)).2.1.2.2, (mh_Q (sy_Q Q0)).2.2.1.2.2, in_g (sy_Q Q0) (by omega), fun hg => ?_, fun hg => ?_⟩
    · rw [gg_k (sy_Q Q0) (by omega), H.2] at hg
      exact e49 w F hv (fun y => hg (sI_0.mpr y))
    · rw [gg_k (sy_Q Q0) (by omega), H.2] at hg
      have hz0 : z (rk_n a) = 0 := sI_0.mp hg
      have hw0 : w = 0 := by
        rcases hv with y | y
        · rw [hz0] at y; exact y.2.1
        · exact absurd rfl y.1
      subst hw0
      refine s_say Q0 r17 t17 nn17 (by decide) n1 n2 n3 (fun _ => ⟨(mh_Q (sy_Q Q0)).1, A.2.1, (mh_Q (sy_Q Q0)).2.1.2.1, (mh_Q (sy_Q Q0)).2.2.1.2.1, in_z (sy_Q Q0) (by omega), fun v37 e37 => ⟨0 + 1, ?_⟩⟩)
      rw [gz_k (sy_Q Q0) (by omega), (mr_0 H.1).mp (by rw [hz0]; rfl)] at e37
      rw [e37, lp_MO_write_58]
      refine ⟨fun _ => ⟨(mh_Q (sy_Q Q0)).1, fin 1 _ (by decide) ?_⟩, fun hc => absurd (by decide) hc⟩
      rw [hz0]
      refine ⟨1, rfl, by decide, Nat.le_refl _, Or.inl rfl, fun j hj => ?_, fun y => Bool.noConfusion y⟩
      have : j = 0 := by omega
      subst this
      exact pk_us
  refine ⟨A.2.2, (mh_Q (sy_Q Q0)).2.1.2.2, (mh_Q (sy_Q Q0)).2.2.1.2.2, in_g (sy_Q Q0) (by omega), fun hg => ?_, fun hg => ?_⟩
  · rw [gg_k (sy_Q Q0) (by omega), H.2] at hg
    have hx := sI_np hg
    exact e34 0 _ (Or.inl ⟨rfl, by rw [decide_eq_false (by omega)]; rfl, fun y => by rw [decide_eq_false (by omega)] at y; exact Bool.noConfusion y⟩)
  · rw [gg_k (sy_Q Q0) (by omega), H.2] at hg
    have hx := sI_nn hg
    refine s_say Q0 r17 t17 nn17 (by decide) n1 n2 n3 (fun _ => e34 1 _ (Or.inl ⟨rfl, by rw [decide_eq_true hx]; rfl, fun _ => pk_us⟩))
end MP7
