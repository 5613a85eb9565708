section MO1
/-- int words by their numbers -/
def iw_n (d : Nat → Nat) : Nat → Int32 := fun i => nI (d i)
theorem iw_u (d : Nat → Nat) (i x : Nat) : upd (iw_n d) i (nI x) = iw_n (dg_u d i x) := by
  funext j
  by_cases z : j = i
  · rw [z, pk_us]; unfold iw_n; rw [dg_us]
  · rw [pk_un z]; unfold iw_n; rw [dg_un z]
/-- where the model's three arrays lie: digit, size, sign -/
def mo_Q (h : ah_H) (m : Nat) (A : Nat × Nat × Nat) : Prop := ah_T h m = 5 ∧ (ah_R h 13 m = some A.1 ∧ ah_R h 14 m = some A.2.1 ∧ ah_R h 15 m = some A.2.2) ∧ (ah_T h A.1 = 100 ∧ ah_T h A.2.1 = 100 ∧ ah_T h A.2.2 = 100) ∧ (ah_N h A.1 = 23400 ∧ ah_N h A.2.1 = 18 ∧ ah_N h A.2.2 = 18) ∧ A.1 ≠ A.2.1 ∧ A.1 ≠ A.2.2 ∧ A.2.1 ≠ A.2.2
/-- the three arrays anew -/
def mh_S (h : ah_H) (A : Nat × Nat × Nat) (D Z : Nat → Nat) (G : Nat → Int32) : ah_H := ah_cI (ah_cI (ah_cI h A.1 (iw_n D)) A.2.1 (iw_n Z)) A.2.2 G
variable {h : ah_H} {m : Nat} {A : Nat × Nat × Nat} {D Z : Nat → Nat} {G : Nat → Int32}
theorem mh_d (Q : mo_Q h m A) : ah_bI (mh_S h A D Z G) A.1 = iw_n D := by
  unfold mh_S
  rw [cI_bI, cI_bI, cI_bI, va_up_ne _ _ Q.2.2.2.2.2.1, va_up_ne _ _ Q.2.2.2.2.1, va_up_self]
theorem mh_z (Q : mo_Q h m A) : ah_bI (mh_S h A D Z G) A.2.1 = iw_n Z := by
  unfold mh_S
  rw [cI_bI, cI_bI, cI_bI, va_up_ne _ _ Q.2.2.2.2.2.2, va_up_self]
theorem mh_g : ah_bI (mh_S h A D Z G) A.2.2 = G := by unfold mh_S; rw [cI_bI]; exact va_up_self _ _ _
theorem cI_cm {a b : Nat} {f g : Nat → Int32} (hab : a ≠ b) : ah_cI (ah_cI h a f) b g = ah_cI (ah_cI h b g) a f := by
  have e : va_up (va_up (ah_bI h) a f) b g = va_up (va_up (ah_bI h) b g) a f := by
    funext x
    by_cases h1 : x = a
    · subst h1; rw [va_up_ne _ _ hab, va_up_self, va_up_self]
    · by_cases h2 : x = b
      · subst h2; rw [va_up_self, va_up_ne _ _ h1, va_up_self]
      · rw [va_up_ne _ _ h2, va_up_ne _ _ h1, va_up_ne _ _ h1, va_up_ne _ _ h2]
  apply ah_ext
  · rw [cI_T, cI_T, cI_T, cI_T]
  · rw [cI_N, cI_N, cI_N, cI_N]
  · rw [cI_I, cI_I, cI_I, cI_I]
  · rw [cI_L, cI_L, cI_L, cI_L]
  · rw [cI_R, cI_R, cI_R, cI_R]
  · rw [cI_bI, cI_bI, cI_bI, cI_bI, e]
  · rw [cI_bL, cI_bL, cI_bL, cI_bL]
  · rw [cI_bR, cI_bR, cI_bR, cI_bR]
theorem mh_D (Q : mo_Q h m A) {D' : Nat → Nat} : ah_cI (mh_S h A D Z G) A.1 (iw_n D') = mh_S h A D' Z G := by
  unfold mh_S
  rw [cI_cm (Ne.symm Q.2.2.2.2.2.1), cI_cm (a := A.2.1) (Ne.symm Q.2.2.2.2.1), cI_cI]
theorem mh_Z (Q : mo_Q h m A) {Z' : Nat → Nat} : ah_cI (mh_S h A D Z G) A.2.1 (iw_n Z') = mh_S h A D Z' G := by
  unfold mh_S
  rw [cI_cm (Ne.symm Q.2.2.2.2.2.2), cI_cI]
theorem mh_G {G' : Nat → Int32} : ah_cI (mh_S h A D Z G) A.2.2 G' = mh_S h A D Z G' := by unfold mh_S; rw [cI_cI]
theorem mh_mh (Q : mo_Q h m A) {D' Z' : Nat → Nat} {G' : Nat → Int32} : mh_S (mh_S h A D Z G) A D' Z' G' = mh_S h A D' Z' G' := by
  rw [show mh_S (mh_S h A D Z G) A D' Z' G' = ah_cI (ah_cI (ah_cI (mh_S h A D Z G) A.1 (iw_n D')) A.2.1 (iw_n Z')) A.2.2 G' by unfold mh_S; rfl, mh_D Q, mh_Z Q, mh_G]
theorem mh_T : ah_T (mh_S h A D Z G) = ah_T h := by unfold mh_S; rw [cI_T, cI_T, cI_T]
theorem mh_N : ah_N (mh_S h A D Z G) = ah_N h := by unfold mh_S; rw [cI_N, cI_N, cI_N]
theorem mh_I : ah_I (mh_S h A D Z G) = ah_I h := by unfold mh_S; rw [cI_I, cI_I, cI_I]
theorem mh_L : ah_L (mh_S h A D Z G) = ah_L h := by unfold mh_S; rw [cI_L, cI_L, cI_L]
theorem mh_R : ah_R (mh_S h A D Z G) = ah_R h := by unfold mh_S; rw [cI_R, cI_R, cI_R]
theorem mh_bL : ah_bL (mh_S h A D Z G) = ah_bL h := by unfold mh_S; rw [cI_bL, cI_bL, cI_bL]
theorem mh_bR : ah_bR (mh_S h A D Z G) = ah_bR h := by unfold mh_S; rw [cI_bR, cI_bR, cI_bR]
theorem mh_bI : ah_bI (mh_S h A D Z G) = va_up (va_up (va_up (ah_bI h) A.1 (iw_n D)) A.2.1 (iw_n Z)) A.2.2 G := by unfold mh_S; rw [cI_bI, cI_bI, cI_bI]
theorem mh_Q (Q : mo_Q h m A) : mo_Q (mh_S h A D Z G) m A := by
  unfold mo_Q at *
  rw [mh_T, mh_N, mh_R]; exact Q
theorem mh_id (h1 : ah_bI h A.1 = iw_n D) (h2 : ah_bI h A.2.1 = iw_n Z) (h3 : ah_bI h A.2.2 = G) : mh_S h A D Z G = h := by
  unfold mh_S
  rw [← h1, cI_id, ← h2, cI_id, ← h3, cI_id]
/-- writing one digit, one size, one sign -/
theorem mw_d (Q : mo_Q h m A) {i x : Nat} : ah_cI (mh_S h A D Z G) A.1 (upd (ah_bI (mh_S h A D Z G) A.1) i (nI x)) = mh_S h A (dg_u D i x) Z G := by
  rw [mh_d Q, iw_u, mh_D Q]
theorem mw_z (Q : mo_Q h m A) {i x : Nat} : ah_cI (mh_S h A D Z G) A.2.1 (upd (ah_bI (mh_S h A D Z G) A.2.1) i (nI x)) = mh_S h A D (dg_u Z i x) G := by
  rw [mh_z Q, iw_u, mh_Z Q]
theorem mw_g {i : Nat} {x : Int32} : ah_cI (mh_S h A D Z G) A.2.2 (upd (ah_bI (mh_S h A D Z G) A.2.2) i x) = mh_S h A D Z (upd G i x) := by
  rw [mh_g, mh_G]
theorem ix_k (r k : Nat) : (1300 : Int32) * nI r + nI k = nI (1300 * r + k) := by
  show nI 1300 * nI r + nI k = _
  rw [pk_mul, nI_add]
theorem in_d (Q : mo_Q h m A) {i : Nat} (hi : i < 23400) : vp_in (nI i) (ah_N (mh_S h A D Z G) A.1) := by
  rw [(mh_Q Q).2.2.2.1.1]; exact vp_in_nI hi (by decide)
theorem in_z (Q : mo_Q h m A) {i : Nat} (hi : i < 18) : vp_in (nI i) (ah_N (mh_S h A D Z G) A.2.1) := by
  rw [(mh_Q Q).2.2.2.1.2.1]; exact vp_in_nI hi (by decide)
theorem in_g (Q : mo_Q h m A) {i : Nat} (hi : i < 18) : vp_in (nI i) (ah_N (mh_S h A D Z G) A.2.2) := by
  rw [(mh_Q Q).2.2.2.1.2.2]; exact vp_in_nI hi (by decide)
theorem gz_k (Q : mo_Q h m A) {r : Nat} (hr : r < 18) : ah_bI (mh_S h A D Z G) A.2.1 (nI r).toNatClampNeg = nI (Z r) := by
  rw [mh_z Q, nI_clamp (by omega)]; rfl
theorem gg_k (Q : mo_Q h m A) {r : Nat} (hr : r < 18) : ah_bI (mh_S h A D Z G) A.2.2 (nI r).toNatClampNeg = G r := by
  rw [mh_g, nI_clamp (by omega)]
theorem gd_k (Q : mo_Q h m A) {i : Nat} (hi : i < 23400) : ah_bI (mh_S h A D Z G) A.1 (nI i).toNatClampNeg = nI (D i) := by
  rw [mh_d Q, nI_clamp (by omega)]; rfl
/-- a row, and its digits -/
def ro_n (D : Nat → Nat) (r : Nat) : Nat → Nat := fun k => D (1300 * r + k)
def rd_n (D Z : Nat → Nat) (r k : Nat) : Nat := if k < Z r then D (1300 * r + k) else 0
/-- at(r, k) -/
theorem s_mat (Q : mo_Q h m A) {r k : Nat} (hr : r < 18) (hk : k < 2 ^ 30) (hz : Z r ≤ 1300) {K : Int32 → ah_H → Prop} (hK : K (nI (rd_n D Z r k)) (mh_S h A D Z G)) : w_MO_at m (nI r) (nI k) (mh_S h A D Z G) K := by
  refine ⟨(mh_Q Q).1, A.2.1, (mh_Q Q).2.1.2.1, (mh_Q Q).2.2.1.2.1, in_z Q hr, fun hc => ?_, fun hc => ⟨fun hn => absurd hn (nI_pos (by omega)), fun _ => ⟨A.1, (mh_Q Q).2.1.1, (mh_Q Q).2.2.1.1, ?_, ?_⟩⟩⟩
  · rw [gz_k Q hr] at hc
    have h1 := (nI_leI (by omega) (by omega)).mp hc
    unfold rd_n at hK
    rw [if_neg (by omega)] at hK
    exact hK
  · rw [gz_k Q hr] at hc
    have h1 : k < Z r := Nat.lt_of_not_le (fun z => hc ((nI_leI (by omega) (by omega)).mpr z))
    rw [ix_k]; exact in_d Q (by omega)
  · rw [gz_k Q hr] at hc
    have h1 : k < Z r := Nat.lt_of_not_le (fun z => hc ((nI_leI (by omega) (by omega)).mpr z))
    unfold rd_n at hK
    rw [if_pos h1] at hK
    show K _ _
    rw [ix_k, gd_k Q (by omega)]
    exact hK
theorem s_matN (Q : mo_Q h m A) {r : Nat} (hr : r < 18) (hz : Z r ≤ 1300) {x : Int32} (hx : x < 0) {K : Int32 → ah_H → Prop} (hK : K (nI 0) (mh_S h A D Z G)) : w_MO_at m (nI r) x (mh_S h A D Z G) K :=
  ⟨(mh_Q Q).1, A.2.1, (mh_Q Q).2.1.2.1, (mh_Q Q).2.2.1.2.1, in_z Q hr, fun _ => hK, fun _ => ⟨fun _ => hK, fun hc => absurd hx hc⟩⟩
/-- trim(r, n) -/
theorem s_trim_a (Q : mo_Q h m A) {r : Nat} (hr : r < 18) {xt : Nat → Int32 → ah_H → Prop} {K : ah_H → Prop} :
    ∀ (n : Nat), n ≤ 1300 → (∀ k, k < n → ro_n D r k < 10000) → xt m (nI r) (mh_S h A D (dg_u Z r (tr_n (ro_n D r) n)) G) → ∃ k, lp_MO_trim_7 xt K k m (nI r) (mh_S h A D (dg_u Z r n) G) := by
  intro n
  induction n with
  | zero =>
    intro hn hd hx
    refine ⟨0 + 1, ?_⟩
    rw [lp_MO_trim_7]
    refine ⟨(mh_Q Q).1, A.2.1, (mh_Q Q).2.1.2.1, (mh_Q Q).2.2.1.2.1, in_z Q hr, fun _ => hx, fun hc => absurd ?_ hc⟩
    rw [gz_k Q hr, dg_us]; decide
  | succ n ih =>
    intro hn hd hx
    have hdn := hd n (by omega)
    have ei : ((1300 : Int32) * nI r + ah_bI (mh_S h A D (dg_u Z r (n + 1)) G) A.2.1 (nI r).toNatClampNeg) - (1 : Int32) = nI (1300 * r + n) := by
      rw [gz_k Q hr, dg_us, ix_k, nI_m1 (by omega)]
      congr 1
    have hv : vp_in (((1300 : Int32) * nI r + ah_bI (mh_S h A D (dg_u Z r (n + 1)) G) A.2.1 (nI r).toNatClampNeg) - (1 : Int32)) (ah_N (mh_S h A D (dg_u Z r (n + 1)) G) A.1) := by
      rw [ei]; exact in_d Q (by omega)
    have ed : ah_bI (mh_S h A D (dg_u Z r (n + 1)) G) A.1 (((1300 : Int32) * nI r + ah_bI (mh_S h A D (dg_u Z r (n + 1)) G) A.2.1 (nI r).toNatClampNeg) - (1 : Int32)).toNatClampNeg = nI (ro_n D r n) := by
      rw [ei, gd_k Q (by omega)]; rfl
    by_cases hz : ro_n D r n = 0
    · have e1 : tr_n (ro_n D r) (n + 1) = tr_n (ro_n D r) n := by rw [tr_n, if_pos hz]
      rw [e1] at hx
      obtain ⟨k, hk⟩ := ih (by omega) (fun k hk => hd k (by omega)) hx
      refine ⟨k + 1, ?_⟩
      rw [lp_MO_trim_7]
      refine ⟨(mh_Q Q).1, A.2.1, (mh_Q Q).2.1.2.1, (mh_Q Q).2.2.1.2.1, in_z Q hr, fun hc => ?_, fun _ => ⟨A.1, (mh_Q Q).2.1.1, A.2.1, (mh_Q Q).2.1.2.1, (mh_Q Q).2.2.1.2.1, in_z Q hr, (mh_Q Q).2.2.1.1, hv, fun hc => absurd (by rw [ed, hz]; rfl) hc, fun _ => ⟨A.2.1, (mh_Q Q).2.1.2.1, (mh_Q Q).2.2.1.2.1, in_z Q hr, fun v ev => ⟨in_z Q hr, fun h37 e37 => ?_⟩⟩⟩⟩
      · rw [gz_k Q hr, dg_us] at hc
        exact absurd hc (nI_nle (by omega) (by omega))
      · rw [ev, gz_k Q hr, dg_us, nI_m1 (by omega), nI_clamp (by omega), mw_z Q] at e37
        rw [e37]
        have e2 : dg_u (dg_u Z r (n + 1)) r (n + 1 - 1) = dg_u Z r n := by
          funext j
          by_cases z : j = r
          · rw [z, dg_us, dg_us]; rfl
          · rw [dg_un z, dg_un z, dg_un z]
        rw [e2]; exact hk
    · have e1 : tr_n (ro_n D r) (n + 1) = n + 1 := by rw [tr_n, if_neg hz]
      rw [e1] at hx
      refine ⟨0 + 1, ?_⟩
      rw [lp_MO_trim_7]
      refine ⟨(mh_Q Q).1, A.2.1, (mh_Q Q).2.1.2.1, (mh_Q Q).2.2.1.2.1, in_z Q hr, fun hc => ?_, fun _ => ⟨A.1, (mh_Q Q).2.1.1, A.2.1, (mh_Q Q).2.1.2.1, (mh_Q Q).2.2.1.2.1, in_z Q hr, (mh_Q Q).2.2.1.1, hv, fun _ => hx, fun hc => ?_⟩⟩
      · rw [gz_k Q hr, dg_us] at hc
        exact absurd hc (nI_nle (by omega) (by omega))
      · rw [ed] at hc
        exact absurd hc (nI_ne0 (by omega) (by omega))
/-- the sign behind trim -/
def tm_g (G : Nat → Int32) (r n : Nat) : Nat → Int32 := if n = 0 then upd G r 0 else G
theorem s_trim (Q : mo_Q h m A) {r n : Nat} (hr : r < 18) (hn : n ≤ 1300) (hd : ∀ k, k < n → ro_n D r k < 10000) {K : ah_H → Prop} (hK : K (mh_S h A D (dg_u Z r (tr_n (ro_n D r) n)) (tm_g G r (tr_n (ro_n D r) n)))) : w_MO_trim m (nI r) (nI n) (mh_S h A D Z G) K := by
  refine ⟨(mh_Q Q).1, A.2.1, (mh_Q Q).2.1.2.1, (mh_Q Q).2.2.1.2.1, in_z Q hr, fun h9 e9 => ?_⟩
  rw [nI_clamp (by omega), mw_z Q] at e9
  rw [e9]
  have ht := tr_le (ro_n D r) n
  refine s_trim_a Q hr n hn hd ⟨(mh_Q Q).1, A.2.1, (mh_Q Q).2.1.2.1, (mh_Q Q).2.2.1.2.1, in_z Q hr, fun hc => ?_, fun hc => ⟨A.2.2, (mh_Q Q).2.1.2.2, (mh_Q Q).2.2.1.2.2, in_g Q hr, fun h61 e61 => ?_⟩⟩
  · rw [gz_k Q hr, dg_us] at hc
    unfold tm_g at hK
    rw [if_neg (fun z => hc (by rw [z]; rfl))] at hK
    exact hK
  · rw [gz_k Q hr, dg_us] at hc
    have hz : tr_n (ro_n D r) n = 0 := (nI_eq (b := 0) (by omega) (by decide)).mp hc
    rw [nI_clamp (by omega), mw_g] at e61
    unfold tm_g at hK
    rw [if_pos hz] at hK
    rw [e61]; exact hK
/-- the row r holds v in its one form -/
def mr_D (D Z : Nat → Nat) (r v : Nat) : Prop := Z r ≤ 1300 ∧ (∀ k, k < Z r → ro_n D r k < 10000) ∧ (Z r = 0 ∨ ro_n D r (Z r - 1) ≠ 0) ∧ v = dg_v 10000 (ro_n D r) (Z r)
theorem rd_ro {r k : Nat} (hk : k < Z r) : rd_n D Z r k = ro_n D r k := by unfold rd_n; rw [if_pos hk]; rfl
theorem rd_z {r k : Nat} (hk : Z r ≤ k) : rd_n D Z r k = 0 := by unfold rd_n; rw [if_neg (by omega)]
theorem rd_lt {r v : Nat} (H : mr_D D Z r v) (k : Nat) : rd_n D Z r k < 10000 := by
  unfold rd_n
  split
  · rename_i hk; exact H.2.1 k hk
  · decide
theorem rd_v {r v n : Nat} (H : mr_D D Z r v) (hn : Z r ≤ n) : dg_v 10000 (rd_n D Z r) n = v := by
  rw [H.2.2.2, dg_z (d := rd_n D Z r) hn (fun i h1 _ => rd_z h1)]
  exact dg_cg (fun i hi => rd_ro hi)
theorem mr_lt {r v : Nat} (H : mr_D D Z r v) : v < 10000 ^ Z r := by rw [H.2.2.2]; exact dg_lt H.2.1
theorem mr_ge {r v : Nat} (H : mr_D D Z r v) (h0 : 0 < Z r) : 10000 ^ (Z r - 1) ≤ v := by
  rw [H.2.2.2]
  obtain ⟨k, hk⟩ : ∃ k, Z r = k + 1 := ⟨Z r - 1, by omega⟩
  rcases H.2.2.1 with e | e
  · omega
  · rw [hk] at e ⊢
    exact dg_ge e
theorem mr_sz {r s v w : Nat} (H : mr_D D Z r v) (H2 : mr_D D Z s w) (hz : Z r < Z s) : v < w := by
  have h1 := mr_lt H
  have h2 := mr_ge H2 (by omega)
  have h3 : (10000 : Nat) ^ Z r ≤ 10000 ^ (Z s - 1) := Nat.pow_le_pow_right (by decide) (by omega)
  omega
theorem mr_0 {r v : Nat} (H : mr_D D Z r v) : v = 0 ↔ Z r = 0 := by
  constructor
  · intro h
    rcases Nat.eq_zero_or_pos (Z r) with z | z
    · exact z
    · have := mr_ge H z
      have : 0 < (10000 : Nat) ^ (Z r - 1) := Nat.pow_pos (by decide)
      omega
  · intro h; rw [H.2.2.2, h]; rfl
/-- against(x, y) -/
theorem s_against_a (Q : mo_Q h m A) {x y u v : Nat} (hx : x < 18) (hy : y < 18) (X : mr_D D Z x u) (Y : mr_D D Z y v) (he : Z x = Z y) {K : Int32 → ah_H → Prop} {xt : Nat → Int32 → Int32 → Int32 → ah_H → Prop} {xz : ah_H → Prop} (hz : u = v → xz (mh_S h A D Z G))
    (hxt : ∀ i, i < Z x → (∀ j, i < j → j < Z x → ro_n D x j = ro_n D y j) → ro_n D x i ≠ ro_n D y i → xt m (nI x) (nI y) (nI i) (mh_S h A D Z G)) :
    ∀ (i : Nat), i ≤ Z x → (∀ j, i ≤ j → j < Z x → ro_n D x j = ro_n D y j) → lp_MO_against_45 xt xz K (i + 1) m (nI x) (nI y) (nI i - 1) (mh_S h A D Z G) := by
  intro i
  induction i with
  | zero =>
    intro _ hj
    rw [lp_MO_against_45]
    refine ⟨fun _ => hz ?_, fun hc => absurd (by decide) hc⟩
    rw [X.2.2.2, Y.2.2.2, ← he]
    exact dg_cg (fun j hj' => hj j (Nat.zero_le j) hj')
  | succ i ih =>
    intro hi hj
    have h1 := X.1
    rw [nI_m1 (n := i + 1) (by omega), Nat.add_sub_cancel, lp_MO_against_45]
    refine ⟨fun hc => absurd hc (nI_pos (by omega)), fun _ => ⟨(mh_Q Q).1, s_mat Q hx (by omega) X.1 (fun _ => s_mat Q hy (by omega) Y.1 (fun _ => ⟨fun hc v35 e35 => ?_, fun hc => ?_⟩))⟩⟩
    · rw [rd_ro (by omega), rd_ro (by omega)] at hc
      have x1 := X.2.1 i (by omega)
      have y1 := Y.2.1 i (by omega)
      have h3 := (nI_eq (by omega) (by omega)).mp hc
      rw [e35, ← Int32.sub_eq_add_neg]
      exact ih (by omega) (fun j a b => by
        by_cases z : j = i
        · rw [z]; exact h3
        · exact hj j (by omega) b)
    · rw [rd_ro (by omega), rd_ro (by omega)] at hc
      exact hxt i (by omega) (fun j a b => hj j (by omega) b) (fun z => hc (by rw [z]))
theorem s_against (Q : mo_Q h m A) {x y u v : Nat} (hx : x < 18) (hy : y < 18) (X : mr_D D Z x u) (Y : mr_D D Z y v) {K : Int32 → ah_H → Prop} (hK : ∀ r, or_N r u v → K r (mh_S h A D Z G)) : w_MO_against m (nI x) (nI y) (mh_S h A D Z G) K := by
  have x0 := X.1
  have y0 := Y.1
  refine ⟨(mh_Q Q).1, A.2.1, (mh_Q Q).2.1.2.1, (mh_Q Q).2.2.1.2.1, in_z Q hx, A.2.1, (mh_Q Q).2.1.2.1, (mh_Q Q).2.2.1.2.1, in_z Q hy, fun he => ⟨A.2.1, (mh_Q Q).2.1.2.1, (mh_Q Q).2.2.1.2.1, in_z Q hx, fun v18 e18 => ?_⟩, fun he => ⟨A.2.1, (mh_Q Q).2.1.2.1, (mh_Q Q).2.2.1.2.1, in_z Q hx, A.2.1, (mh_Q Q).2.1.2.1, (mh_Q Q).2.2.1.2.1, in_z Q hy, fun hl => ?_, fun hl => ?_⟩⟩
  · rw [gz_k Q hx, gz_k Q hy] at he
    have h1 : Z x = Z y := (nI_eq (by omega) (by omega)).mp he
    rw [e18, gz_k Q hx]
    refine ⟨Z x + 1, s_against_a Q hx hy X Y h1 (fun hz => hK 0 (Or.inr (Or.inl ⟨rfl, hz⟩))) (fun i hi h2 h3 => ⟨(mh_Q Q).1, s_mat Q hx (by omega) X.1 (fun _ => s_mat Q hy (by omega) Y.1 (fun _ => ⟨fun hc => ?_, fun hc => ?_⟩))⟩) (Z x) (Nat.le_refl _) (fun j a b => absurd a (by omega))⟩
    · rw [rd_ro hi, rd_ro (by omega)] at hc
      have x1 := X.2.1 i (by omega)
      have y1 := Y.2.1 i (by omega)
      have h4 := (nI_leI (by omega) (by omega)).mp hc
      refine hK 1 (Or.inr (Or.inr ⟨rfl, ?_⟩))
      rw [X.2.2.2, Y.2.2.2, ← h1]
      exact dg_cmp hi (fun j hj => Y.2.1 j (by omega)) (fun j a b => (h2 j a b).symm) (by omega)
    · rw [rd_ro hi, rd_ro (by omega)] at hc
      have x1 := X.2.1 i (by omega)
      have y1 := Y.2.1 i (by omega)
      have h4 : ¬ ro_n D y i ≤ ro_n D x i := fun z => hc ((nI_leI (by omega) (by omega)).mpr z)
      refine hK (-1) (Or.inl ⟨rfl, ?_⟩)
      rw [X.2.2.2, Y.2.2.2, ← h1]
      exact dg_cmp hi (fun j hj => X.2.1 j (by omega)) (fun j a b => h2 j a b) (by omega)
  · rw [gz_k Q hx, gz_k Q hy] at hl he
    have h1 := (nI_leI (by omega) (by omega)).mp hl
    have h2 : Z x ≠ Z y := fun z => he (by rw [z])
    exact hK 1 (Or.inr (Or.inr ⟨rfl, mr_sz Y X (by omega)⟩))
  · rw [gz_k Q hx, gz_k Q hy] at hl
    have h1 : ¬ Z y ≤ Z x := fun z => hl ((nI_leI (by omega) (by omega)).mpr z)
    exact hK (-1) (Or.inl ⟨rfl, mr_sz X Y (by omega)⟩)
/-- outside of the row r nothing is changed -/
def rf_D (r : Nat) (D D' : Nat → Nat) : Prop := ∀ j, (j < 1300 * r ∨ 1300 * r + 1300 ≤ j) → D' j = D j
theorem rf_rf {r : Nat} : rf_D r D D := fun _ _ => rfl
theorem rf_tr {r : Nat} {D' D'' : Nat → Nat} (a : rf_D r D D') (b : rf_D r D' D'') : rf_D r D D'' := fun j hj => (b j hj).trans (a j hj)
theorem rf_u {r k x : Nat} (hk : k < 1300) : rf_D r D (dg_u D (1300 * r + k) x) := fun j hj => dg_un (by omega)
theorem rf_ro {r s k : Nat} {D' : Nat → Nat} (a : rf_D r D D') (hs : s ≠ r) (hk : k < 1300) : ro_n D' s k = ro_n D s k := by
  refine a _ ?_
  rcases Nat.lt_or_gt_of_ne hs with z | z
  · left
    have : 1300 * (s + 1) ≤ 1300 * r := Nat.mul_le_mul_left _ z
    omega
  · right
    have : 1300 * (r + 1) ≤ 1300 * s := Nat.mul_le_mul_left _ z
    omega
theorem rf_mr {r s v : Nat} {D' Z' : Nat → Nat} (a : rf_D r D D') (hs : s ≠ r) (hz : Z' s = Z s) (H : mr_D D Z s v) : mr_D D' Z' s v := by
  have h0 := H.1
  have e : ∀ k, k < Z s → ro_n D' s k = ro_n D s k := fun k hk => rf_ro a hs (by omega)
  refine ⟨by rw [hz]; exact h0, fun k hk => ?_, ?_, ?_⟩
  · rw [hz] at hk
    rw [e k hk]; exact H.2.1 k hk
  · rw [hz]
    rcases Nat.eq_zero_or_pos (Z s) with z | z
    · exact Or.inl z
    · rcases H.2.2.1 with y | y
      · omega
      · right
        rw [e _ (by omega)]; exact y
  · rw [hz, dg_cg e]; exact H.2.2.2
/-- the row that trim leaves -/
theorem tr_mr {r n : Nat} (hn : n ≤ 1300) (hd : ∀ k, k < n → ro_n D r k < 10000) : mr_D D (dg_u Z r (tr_n (ro_n D r) n)) r (dg_v 10000 (ro_n D r) n) := by
  have ht := tr_le (ro_n D r) n
  refine ⟨by rw [dg_us]; omega, fun k hk => hd k (by rw [dg_us] at hk; omega), ?_, ?_⟩
  · rw [dg_us]; exact tr_t (ro_n D r) n
  · rw [dg_us, tr_v]
/-- copyRow(to, from) -/
theorem s_copy_a (Q : mo_Q h m A) {to fr : Nat} (ht : to < 18) (hf : fr < 18) (hz : Z fr ≤ 1300) {xt : Nat → Int32 → Int32 → ah_H → Prop} {K : ah_H → Prop}
    (hx : ∀ D' : Nat → Nat, rf_D to D D' → (∀ k, k < Z fr → ro_n D' to k = ro_n D fr k) → xt m (nI to) (nI fr) (mh_S h A D' Z G)) :
    ∀ (k i : Nat) (D' : Nat → Nat), Z fr = i + k → rf_D to D D' → (∀ k, k < i → ro_n D' to k = ro_n D fr k) → (to = fr → D' = D) → ∃ n, lp_MO_copyRow_2 xt K n m (nI to) (nI fr) (nI i) (mh_S h A D' Z G) := by
  intro k
  induction k with
  | zero =>
    intro i D' hi h1 h2 h3
    refine ⟨0 + 1, ?_⟩
    rw [lp_MO_copyRow_2]
    refine ⟨(mh_Q Q).1, A.2.1, (mh_Q Q).2.1.2.1, (mh_Q Q).2.2.1.2.1, in_z Q hf, fun _ => hx D' h1 (fun k hk => h2 k (by omega)), fun hc => absurd ?_ hc⟩
    rw [gz_k Q hf]; exact nI_le (by omega) (by omega)
  | succ k ih =>
    intro i D' hi h1 h2 h3
    have es : D' (1300 * fr + i) = D (1300 * fr + i) := by
      by_cases z : to = fr
      · rw [h3 z]
      · exact rf_ro h1 (Ne.symm z) (by omega)
    obtain ⟨n, hn⟩ := ih (i + 1) (dg_u D' (1300 * to + i) (D' (1300 * fr + i))) (by omega) (rf_tr h1 (rf_u (by omega))) (fun k hk => by
      by_cases z : k = i
      · rw [z]; unfold ro_n; rw [dg_us, es]
      · unfold ro_n; rw [dg_un (by omega)]; exact h2 k (by omega)) (fun z => by
      subst z
      funext j
      by_cases y : j = 1300 * to + i
      · rw [y, dg_us]; rw [h3 rfl]
      · rw [dg_un y, h3 rfl])
    refine ⟨n + 1, ?_⟩
    rw [lp_MO_copyRow_2]
    refine ⟨(mh_Q Q).1, A.2.1, (mh_Q Q).2.1.2.1, (mh_Q Q).2.2.1.2.1, in_z Q hf, fun hc => ?_, fun _ => ⟨A.1, (mh_Q Q).2.1.1, A.1, (mh_Q Q).2.1.1, (mh_Q Q).2.2.1.1, by rw [ix_k]; exact in_d Q (by omega), fun v21 e21 => ⟨(mh_Q Q).2.2.1.1, by rw [ix_k]; exact in_d Q (by omega), fun h24 e24 v30 e30 => ?_⟩⟩⟩
    · rw [gz_k Q hf] at hc
      exact absurd hc (nI_ge (by omega) (by omega))
    · rw [ix_k, gd_k Q (by omega)] at e21
      rw [e21, ix_k, nI_clamp (by omega), mw_d Q] at e24
      rw [e24, e30, nI_1]
      exact hn
theorem s_copyRow (Q : mo_Q h m A) {to fr : Nat} (ht : to < 18) (hf : fr < 18) (hz : Z fr ≤ 1300) {K : ah_H → Prop}
    (hK : ∀ D' : Nat → Nat, rf_D to D D' → (∀ k, k < Z fr → ro_n D' to k = ro_n D fr k) → K (mh_S h A D' (dg_u Z to (Z fr)) (upd G to (G fr)))) : w_MO_copyRow m (nI to) (nI fr) (mh_S h A D Z G) K := by
  refine s_copy_a Q ht hf hz (fun D' h1 h2 => ⟨(mh_Q Q).1, A.2.1, (mh_Q Q).2.1.2.1, A.2.1, (mh_Q Q).2.1.2.1, (mh_Q Q).2.2.1.2.1, in_z Q hf, fun v42 e42 => ⟨(mh_Q Q).2.2.1.2.1, in_z Q ht, fun h45 e45 => ?_⟩⟩) (Z fr) 0 D (by omega) rf_rf (fun k hk => absurd hk (Nat.not_lt_zero _)) (fun _ => rfl)
  rw [gz_k Q hf] at e42
  rw [e42, nI_clamp (by omega), mw_z Q] at e45
  rw [e45]
  refine ⟨A.2.2, (mh_Q Q).2.1.2.2, A.2.2, (mh_Q Q).2.1.2.2, (mh_Q Q).2.2.1.2.2, in_g Q hf, fun v56 e56 => ⟨(mh_Q Q).2.2.1.2.2, in_g Q ht, fun h59 e59 => ?_⟩⟩
  rw [gg_k Q hf] at e56
  rw [e56, nI_clamp (by omega), mw_g] at e59
  rw [e59]
  exact hK D' h1 h2
/-- the copied row -/
theorem cp_mr {to fr v : Nat} {D' : Nat → Nat} (h2 : ∀ k, k < Z fr → ro_n D' to k = ro_n D fr k) (F : mr_D D Z fr v) : mr_D D' (dg_u Z to (Z fr)) to v := by
  refine ⟨by rw [dg_us]; exact F.1, fun k hk => ?_, ?_, ?_⟩
  · rw [dg_us] at hk
    rw [h2 k hk]; exact F.2.1 k hk
  · rw [dg_us]
    rcases Nat.eq_zero_or_pos (Z fr) with z | z
    · exact Or.inl z
    · rcases F.2.2.1 with y | y
      · omega
      · right
        rw [h2 _ (by omega)]; exact y
  · rw [dg_us, dg_cg h2]; exact F.2.2.2
end MO1
