section IN3
variable {h h' h'' : ah_H} {m : Nat} {A : Nat × Nat × Nat} {D Z : Nat → Nat} {G : Nat → Int32}
theorem sa_mh {y : Nat} (h1 : y ≠ A.1) (h2 : y ≠ A.2.1) (h3 : y ≠ A.2.2) : sa_S h (mh_S h A D Z G) y :=
  ⟨by rw [mh_T], by rw [mh_N], fun k => by rw [mh_I], fun k => by rw [mh_R], mh_o h1 h2 h3, by rw [mh_bL], by rw [mh_bR]⟩
theorem lim_p (j : Nat) (hj : j ≤ 1024) : 256 ^ j ≤ lim_N := by
  rw [lim_eq, show (256 : Nat) = 2 ^ 8 by decide, ← Nat.pow_mul]
  exact Nat.pow_le_pow_right (by decide) (by omega)
theorem lim_e : lim_N = 256 ^ 1024 := by
  rw [lim_eq, show (256 : Nat) = 2 ^ 8 by decide, ← Nat.pow_mul]
theorem s_in_a (Q : mo_Q h m A) {xt K : ah_H → Prop} (hx : ∀ (D' Z' : Nat → Nat), mf_S (· = 12) D Z G D' Z' G → mr_D D' Z' 12 lim_N → xt (mh_S h A D' Z' G)) :
    ∀ (k j : Nat) (D' Z' : Nat → Nat), j + k = 1024 → mf_S (· = 12) D Z G D' Z' G → mr_D D' Z' 12 (256 ^ j) → lp_MO_init_56 xt K (k + 1) m (nI j) (mh_S h A D' Z' G) := by
  intro k
  induction k with
  | zero =>
    intro j D' Z' hj f M
    rw [lp_MO_init_56]
    refine ⟨fun _ => hx D' Z' f ?_, fun hc => absurd (nI_le (a := 1024) (by omega) (by omega)) hc⟩
    rw [lim_e, ← show j = 1024 by omega]; exact M
  | succ k ih =>
    intro j D' Z' hj f M
    have hz : Z' 12 ≤ 617 := mr_le M (Nat.lt_of_le_of_lt (lim_p j (by omega)) lim_617)
    rw [lp_MO_init_56]
    refine ⟨fun hc => absurd hc (nI_ge (b := 1024) (by omega) (by decide)), fun _ => ⟨(mh_Q Q).1, z_scale (r := 12) (by' := 256) Q (by decide) M (by omega) (by decide) (by decide) (fun D2 Z2 f2 M2 _ v88 e88 => ?_)⟩⟩
    rw [e88, nI_1]
    rw [Nat.mul_comm, ← Nat.pow_succ] at M2
    exact ih (j + 1) D2 Z2 (by omega) (mf_tr f f2) M2
/-- new BigDeskModel() -/
theorem s_MO_init (hm : ah_T h m = 0) {K : ah_H → Prop} (hK : ∀ (h' : ah_H) (A : Nat × Nat × Nat) (B : Nat × Nat), mo_S h' m A B (fun _ => 0) 0 (fun _ => 0) 0 (fun _ => 0) → ol_S h h' → K h') : w_MO_init m (ah_new h m 5 0) K := by
  intro a1 ha1 h4 e4
  have n1 : a1 ≠ m := fun e => by rw [e, nw_T, va_up_self] at ha1; exact absurd ha1 (by decide)
  have o0 : ah_T (ah_new h m 5 0) m = 5 := by rw [nw_T, va_up_self]
  have s4m : sa_S (ah_new h m 5 0) h4 m := by rw [e4]; exact sa_nw n1.symm
  refine ⟨s4m.1.trans o0, fun h8 e8 a2 ha2 h14 e14 h19 e19 a3 ha3 h26 e26 h32 e32 a4 ha4 h40 e40 h47 e47 a5 ha5 h56 e56 h64 e64 => ?_⟩
  -- tags on the way
  have T8 : ah_T h8 = va_up (va_up (ah_T h) m 5) a1 100 := by rw [e8, sR_T, e4, nw_T, nw_T]
  have T19 : ah_T h19 = va_up (ah_T h8) a2 100 := by rw [e19, sR_T, e14, nw_T]
  have T32 : ah_T h32 = va_up (ah_T h19) a3 100 := by rw [e32, sR_T, e26, nw_T]
  have T47 : ah_T h47 = va_up (ah_T h32) a4 100 := by rw [e47, sR_T, e40, nw_T]
  have T64 : ah_T h64 = va_up (ah_T h47) a5 100 := by rw [e64, sR_T, e56, nw_T]
  have m8 : ah_T h8 m = 5 := by rw [T8, va_up_ne _ _ n1.symm, va_up_self]
  have a18 : ah_T h8 a1 = 100 := by rw [T8, va_up_self]
  have n2 : a2 ≠ m := fun e => by rw [e, m8] at ha2; omega
  have n21 : a2 ≠ a1 := fun e => by rw [e, a18] at ha2; omega
  have m19 : ah_T h19 m = 5 := by rw [T19, va_up_ne _ _ n2.symm]; exact m8
  have a119 : ah_T h19 a1 = 100 := by rw [T19, va_up_ne _ _ n21.symm]; exact a18
  have a219 : ah_T h19 a2 = 100 := by rw [T19, va_up_self]
  have n3 : a3 ≠ m := fun e => by rw [e, m19] at ha3; omega
  have n31 : a3 ≠ a1 := fun e => by rw [e, a119] at ha3; omega
  have n32 : a3 ≠ a2 := fun e => by rw [e, a219] at ha3; omega
  have m32 : ah_T h32 m = 5 := by rw [T32, va_up_ne _ _ n3.symm]; exact m19
  have a132 : ah_T h32 a1 = 100 := by rw [T32, va_up_ne _ _ n31.symm]; exact a119
  have a232 : ah_T h32 a2 = 100 := by rw [T32, va_up_ne _ _ n32.symm]; exact a219
  have a332 : ah_T h32 a3 = 100 := by rw [T32, va_up_self]
  have n4 : a4 ≠ m := fun e => by rw [e, m32] at ha4; omega
  have n41 : a4 ≠ a1 := fun e => by rw [e, a132] at ha4; omega
  have n42 : a4 ≠ a2 := fun e => by rw [e, a232] at ha4; omega
  have n43 : a4 ≠ a3 := fun e => by rw [e, a332] at ha4; omega
  have m47 : ah_T h47 m = 5 := by rw [T47, va_up_ne _ _ n4.symm]; exact m32
  have a147 : ah_T h47 a1 = 100 := by rw [T47, va_up_ne _ _ n41.symm]; exact a132
  have a247 : ah_T h47 a2 = 100 := by rw [T47, va_up_ne _ _ n42.symm]; exact a232
  have a347 : ah_T h47 a3 = 100 := by rw [T47, va_up_ne _ _ n43.symm]; exact a332
  have a447 : ah_T h47 a4 = 100 := by rw [T47, va_up_self]
  have n5 : a5 ≠ m := fun e => by rw [e, m47] at ha5; omega
  have n51 : a5 ≠ a1 := fun e => by rw [e, a147] at ha5; omega
  have n52 : a5 ≠ a2 := fun e => by rw [e, a247] at ha5; omega
  have n53 : a5 ≠ a3 := fun e => by rw [e, a347] at ha5; omega
  have n54 : a5 ≠ a4 := fun e => by rw [e, a447] at ha5; omega
  -- cells on the way
  have c1 : ∀ y, y ≠ m → y ≠ a1 → sa_S h h8 y := fun y y1 y2 => by rw [e8, e4]; exact sa_tr (sa_nw y1) (sa_tr (sa_nw y2) (sa_sR y1))
  have c2 : ∀ y, y ≠ m → y ≠ a2 → sa_S h8 h19 y := fun y y1 y2 => by rw [e19, e14]; exact sa_tr (sa_nw y2) (sa_sR y1)
  have c3 : ∀ y, y ≠ m → y ≠ a3 → sa_S h19 h32 y := fun y y1 y2 => by rw [e32, e26]; exact sa_tr (sa_nw y2) (sa_sR y1)
  have c4 : ∀ y, y ≠ m → y ≠ a4 → sa_S h32 h47 y := fun y y1 y2 => by rw [e47, e40]; exact sa_tr (sa_nw y2) (sa_sR y1)
  have c5 : ∀ y, y ≠ m → y ≠ a5 → sa_S h47 h64 y := fun y y1 y2 => by rw [e64, e56]; exact sa_tr (sa_nw y2) (sa_sR y1)
  have k1 : sa_S h8 h64 a1 := sa_tr (c2 a1 n1 n21.symm) (sa_tr (c3 a1 n1 n31.symm) (sa_tr (c4 a1 n1 n41.symm) (c5 a1 n1 n51.symm)))
  have k2 : sa_S h19 h64 a2 := sa_tr (c3 a2 n2 n32.symm) (sa_tr (c4 a2 n2 n42.symm) (c5 a2 n2 n52.symm))
  have k3 : sa_S h32 h64 a3 := sa_tr (c4 a3 n3 n43.symm) (c5 a3 n3 n53.symm)
  have k4 : sa_S h47 h64 a4 := c5 a4 n4 n54.symm
  have R8 : ah_R h8 = ah_u2 (ah_R h4) 13 m (some a1) := by rw [e8, sR_R]
  have R19 : ∀ k, ah_R h19 k m = ah_u2 (ah_R h8) 14 m (some a2) k m := fun k => by
    rw [e19, sR_R, e14]
    by_cases e : k = 14
    · subst e; rw [u2_s, u2_s]
    · rw [u2_k _ _ e, u2_k _ _ e]; exact (sa_nw n2.symm).2.2.2.1 k
  have R32 : ∀ k, ah_R h32 k m = ah_u2 (ah_R h19) 15 m (some a3) k m := fun k => by
    rw [e32, sR_R, e26]
    by_cases e : k = 15
    · subst e; rw [u2_s, u2_s]
    · rw [u2_k _ _ e, u2_k _ _ e]; exact (sa_nw n3.symm).2.2.2.1 k
  have R47 : ∀ k, ah_R h47 k m = ah_u2 (ah_R h32) 16 m (some a4) k m := fun k => by
    rw [e47, sR_R, e40]
    by_cases e : k = 16
    · subst e; rw [u2_s, u2_s]
    · rw [u2_k _ _ e, u2_k _ _ e]; exact (sa_nw n4.symm).2.2.2.1 k
  have R64 : ∀ k, ah_R h64 k m = ah_u2 (ah_R h47) 17 m (some a5) k m := fun k => by
    rw [e64, sR_R, e56]
    by_cases e : k = 17
    · subst e; rw [u2_s, u2_s]
    · rw [u2_k _ _ e, u2_k _ _ e]; exact (sa_nw n5.symm).2.2.2.1 k
  have r13 : ah_R h64 13 m = some a1 := by rw [R64, u2_k _ _ (by decide), R47, u2_k _ _ (by decide), R32, u2_k _ _ (by decide), R19, u2_k _ _ (by decide), R8]; exact u2_s _ _ _ _
  have r14 : ah_R h64 14 m = some a2 := by rw [R64, u2_k _ _ (by decide), R47, u2_k _ _ (by decide), R32, u2_k _ _ (by decide), R19]; exact u2_s _ _ _ _
  have r15 : ah_R h64 15 m = some a3 := by rw [R64, u2_k _ _ (by decide), R47, u2_k _ _ (by decide), R32]; exact u2_s _ _ _ _
  have r16 : ah_R h64 16 m = some a4 := by rw [R64, u2_k _ _ (by decide), R47]; exact u2_s _ _ _ _
  have r17 : ah_R h64 17 m = some a5 := by rw [R64]; exact u2_s _ _ _ _
  have im : ∀ k, ah_I h64 k m = 0 := fun k => by
    rw [e64, sR_I, e56, (sa_nw n5.symm).2.2.1 k, e47, sR_I, e40, (sa_nw n4.symm).2.2.1 k, e32, sR_I, e26, (sa_nw n3.symm).2.2.1 k, e19, sR_I, e14, (sa_nw n2.symm).2.2.1 k, e8, sR_I, s4m.2.2.1 k, nw_I]
    exact if_pos rfl
  have z1 : ah_bI h64 a1 = iw_n (fun _ => 0) := by rw [k1.2.2.2.2.1, e8, sR_bI, e4, nw_bI, va_up_self]; rfl
  have z2 : ah_bI h64 a2 = iw_n (fun _ => 0) := by rw [k2.2.2.2.2.1, e19, sR_bI, e14, nw_bI, va_up_self]; rfl
  have z3 : ah_bI h64 a3 = (fun _ => 0) := by rw [k3.2.2.2.2.1, e32, sR_bI, e26, nw_bI, va_up_self]
  have N1 : ah_N h64 a1 = 23400 := by rw [k1.2.1, e8, sR_N, e4, nw_N, va_up_self]
  have N2 : ah_N h64 a2 = 18 := by rw [k2.2.1, e19, sR_N, e14, nw_N, va_up_self]
  have N3 : ah_N h64 a3 = 18 := by rw [k3.2.1, e32, sR_N, e26, nw_N, va_up_self]
  have N4 : ah_N h64 a4 = 2600 := by rw [k4.2.1, e47, sR_N, e40, nw_N, va_up_self]
  have N5 : ah_N h64 a5 = 2600 := by rw [e64, sR_N, e56, nw_N, va_up_self]
  have m64 : ah_T h64 m = 5 := by rw [T64, va_up_ne _ _ n5.symm]; exact m47
  have Q : mo_Q h64 m (a1, a2, a3) := ⟨m64, ⟨r13, r14, r15⟩, ⟨k1.1.trans a18, k2.1.trans a219, k3.1.trans a332⟩, ⟨N1, N2, N3⟩, n21.symm, n31.symm, n32.symm⟩
  have T : mo_T h64 m (a1, a2, a3) (a4, a5) := ⟨⟨r16, r17⟩, ⟨k4.1.trans a447, by rw [T64]; exact va_up_self _ _ _⟩, ⟨N4, N5⟩, ⟨n41, n42, n43⟩, ⟨n51, n52, n53⟩, n54.symm⟩
  have e0 : h64 = mh_S h64 (a1, a2, a3) (fun _ => 0) (fun _ => 0) (fun _ => 0) := (mh_id z1 z2 z3).symm
  rw [e0]
  refine z_setRow (r := 12) Q (by decide) (fun D1 Z1 G1 f1 M1 _ => ⟨1024 + 1, ?_⟩)
  have e1 : (1 : Int64).toInt = 1 := by decide
  rw [e1] at M1
  refine s_in_a (D := D1) (Z := Z1) (G := G1) Q (fun D2 Z2 f2 M2 => hK _ (a1, a2, a3) (a4, a5) ⟨mh_Q Q, ?_, ⟨D2, Z2, G1, (mh_mh Q).symm, fun r hr => ?_, M2⟩, ⟨by rw [mh_I]; exact im 5, by decide, fun k hk => absurd hk (Nat.not_lt_zero _)⟩, ⟨by rw [mh_I]; exact im 6, by decide, fun k hk => absurd hk (Nat.not_lt_zero _)⟩⟩ (fun y hy => ?_)) 1024 0 D1 Z1 (by decide) mf_rf M1.1
  · unfold mo_T at *
    rw [mh_R, mh_T, mh_N]; exact T
  · have ff := mf_tr f1 f2
    have hz : mz_D (fun _ => 0) (fun _ => 0) (fun _ => 0) r 0 := ⟨⟨(by decide : (0 : Nat) ≤ 1300), fun k hk => absurd hk (Nat.not_lt_zero _), Or.inl rfl, rfl⟩, rfl⟩
    exact ⟨mf_mz ff (by omega) (by omega) hz, lim_pos⟩
  · have ym : y ≠ m := fun e => hy (by rw [e]; exact hm)
    have y1 : y ≠ a1 := fun e => by
      rw [nw_T, va_up_ne _ _ n1] at ha1
      exact hy (by rw [e]; exact ha1)
    have s1 := c1 y ym y1
    have y2 : y ≠ a2 := fun e => hy (by rw [← s1.1, e]; exact ha2)
    have s2 := sa_tr s1 (c2 y ym y2)
    have y3 : y ≠ a3 := fun e => hy (by rw [← s2.1, e]; exact ha3)
    have s3 := sa_tr s2 (c3 y ym y3)
    have y4 : y ≠ a4 := fun e => hy (by rw [← s3.1, e]; exact ha4)
    have s4 := sa_tr s3 (c4 y ym y4)
    have y5 : y ≠ a5 := fun e => hy (by rw [← s4.1, e]; exact ha5)
    exact sa_tr s4 (sa_tr (c5 y ym y5) (sa_mh y1 y2 y3))
end IN3
