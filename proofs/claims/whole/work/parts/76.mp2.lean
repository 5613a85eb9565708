section MP2
variable {h : ah_H} {m : Nat} {A : Nat × Nat × Nat} {D Z : Nat → Nat} {G : Nat → Int32} {B : Nat × Nat} {z : Nat → Int} {tl wl : Nat} {f : Nat → Nat} {g : Nat → Int32}
/-- the same state, and the code c -/
def mc_S (h : ah_H) (m : Nat) (A : Nat × Nat × Nat) (B : Nat × Nat) (z : Nat → Int) (tl : Nat) (f : Nat → Nat) (wl : Nat) (g : Nat → Int32) (c : Int32) (h' : ah_H) : Prop := fm_S m h h' ∧ mo_S h' m A B z tl f wl g ∧ ah_I h' 4 m = c
theorem mc_c (S : mo_S h m A B z tl f wl g) (c : Int32) : mc_S h m A B z tl f wl g c (ah_sI h 4 m c) := by
  obtain ⟨D, Z, G, e, R⟩ := S.2.2.1
  have := mo_fin S (c := c) R
  rw [← mo_s0 e] at this
  exact this
theorem mc_k (S : mo_S h m A B z tl f wl g) {D Z D' Z' : Nat → Nat} {G G' : Nat → Int32} {Sx : Nat → Prop} (R : rg_D D Z G z) (a : mf_S Sx D Z G D' Z' G') (hS : ∀ x, x < 13 → ¬ Sx x) (c : Int32) : mc_S h m A B z tl f wl g c (mh_S (ah_sI h 4 m c) A D' Z' G') := mo_fin S (rg_k R a hS)
theorem sI_nn {x : Int} (h : ¬ 0 ≤ sI_n x) : x < 0 := by
  rcases Int.lt_trichotomy x 0 with y | y | y
  · exact y
  · rw [sI_0.mpr y] at h; exact absurd (by decide) h
  · rw [sI_p.mpr y] at h; exact absurd (by decide) h
theorem sI_np {x : Int} (h : 0 ≤ sI_n x) : 0 ≤ x := by
  rcases Int.lt_or_le x 0 with y | y
  · rw [sI_m.mpr y] at h; exact absurd h (by decide)
  · exact y
/-- compare(a, b) -/
theorem cm_m {x y : Int} {r : Int32} (hr : or_N r x.natAbs y.natAbs) (he : sI_n x = sI_n y) : sI_n x * r = sI_n (x - y) := by
  rcases Int.lt_trichotomy x 0 with a | a | a
  · rw [sI_m.mpr a] at he ⊢
    have b := sI_m.mp he.symm
    rcases hr with ⟨e, w⟩ | ⟨e, w⟩ | ⟨e, w⟩
    · rw [e, sI_p.mpr (by omega)]; decide
    · rw [e, sI_0.mpr (by omega)]; decide
    · rw [e, sI_m.mpr (by omega)]; decide
  · rw [sI_0.mpr a] at he ⊢
    have b := sI_0.mp he.symm
    rw [a, b, Int32.zero_mul]; rfl
  · rw [sI_p.mpr a] at he ⊢
    have b := sI_p.mp he.symm
    rcases hr with ⟨e, w⟩ | ⟨e, w⟩ | ⟨e, w⟩
    · rw [e, sI_m.mpr (by omega)]; decide
    · rw [e, sI_0.mpr (by omega)]; decide
    · rw [e, sI_p.mpr (by omega)]; decide
theorem sI_le {x y : Int} (hne : ¬ sI_n x = sI_n y) : (sI_n y ≤ sI_n x → y < x) ∧ (¬ sI_n y ≤ sI_n x → x < y) := by
  rcases Int.lt_trichotomy x 0 with a | a | a <;> rcases Int.lt_trichotomy y 0 with b | b | b
  · rw [sI_m.mpr a, sI_m.mpr b] at hne; exact absurd rfl hne
  · rw [sI_m.mpr a, sI_0.mpr b]; exact ⟨fun y => absurd y (by decide), fun _ => by omega⟩
  · rw [sI_m.mpr a, sI_p.mpr b]; exact ⟨fun y => absurd y (by decide), fun _ => by omega⟩
  · rw [sI_0.mpr a, sI_m.mpr b]; exact ⟨fun _ => by omega, fun y => absurd (by decide) y⟩
  · rw [sI_0.mpr a, sI_0.mpr b] at hne; exact absurd rfl hne
  · rw [sI_0.mpr a, sI_p.mpr b]; exact ⟨fun y => absurd y (by decide), fun _ => by omega⟩
  · rw [sI_p.mpr a, sI_m.mpr b]; exact ⟨fun _ => by omega, fun y => absurd (by decide) y⟩
  · rw [sI_p.mpr a, sI_0.mpr b]; exact ⟨fun _ => by omega, fun y => absurd (by decide) y⟩
  · rw [sI_p.mpr a, sI_p.mpr b] at hne; exact absurd rfl hne
theorem q_compare (S : mo_S h m A B z tl f wl g) {a b : Int32} {K : Int32 → ah_H → Prop} (h0 : rk_n a < 12 → rk_n b < 12 → ∀ h', mc_S h m A B z tl f wl g 0 h' → K (sI_n (z (rk_n a) - z (rk_n b))) h') (h1 : ¬ (rk_n a < 12 ∧ rk_n b < 12) → ∀ h', mc_S h m A B z tl f wl g 1 h' → K 0 h') : w_MO_compare m a b h K := by
  have Q := S.1
  have Q0 : mo_Q (ah_sI h 4 m 0) m A := sI_Q Q
  obtain ⟨D, Z, G, e, R⟩ := S.2.2.1
  refine s_hd2 (F := fun s h => bk_MO_compare_20 K m a b s m h) (fun ha hb => ⟨Q.1, s_fails0 Q.1 (fun _ => ⟨fun _ => ?_, fun hc => absurd rfl hc⟩)⟩) (fun hn => ⟨Q.1, s_fails1 Q.1 (fun _ => ⟨fun hc => absurd hc (by decide), fun _ => h1 hn _ (mc_c S 1)⟩)⟩)
  have K0 := h0 ha hb _ (mc_k S R (Sx := fun _ => False) mf_rf (fun _ _ y => y) 0)
  have ga := (R.1 _ ha).1.2
  have gb := (R.1 _ hb).1.2
  rw [mo_s0 e, (rk_ok ha).2.2, (rk_ok hb).2.2]
  refine ⟨(mh_Q Q0).1, A.2.2, (mh_Q Q0).2.1.2.2, (mh_Q Q0).2.2.1.2.2, in_g Q0 (by omega), A.2.2, (mh_Q Q0).2.1.2.2, (mh_Q Q0).2.2.1.2.2, in_g Q0 (by omega), fun he => ⟨A.2.2, (mh_Q Q0).2.1.2.2, (mh_Q Q0).2.2.1.2.2, in_g Q0 (by omega), s_against Q0 (by omega) (by omega) (R.1 _ ha).1.1 (R.1 _ hb).1.1 (fun r hr _ => ?_)⟩, fun he => ⟨A.2.2, (mh_Q Q0).2.1.2.2, (mh_Q Q0).2.2.1.2.2, in_g Q0 (by omega), A.2.2, (mh_Q Q0).2.1.2.2, (mh_Q Q0).2.2.1.2.2, in_g Q0 (by omega), fun hl => ?_, fun hl => ?_⟩⟩
  · rw [gg_k Q0 (by omega), gg_k Q0 (by omega), ga, gb] at he
    rw [gg_k Q0 (by omega), ga, cm_m hr he]
    exact K0
  · rw [gg_k Q0 (by omega), gg_k Q0 (by omega), ga, gb] at he hl
    have := (sI_le he).1 hl
    rw [sI_p.mpr (by omega)] at K0
    exact K0
  · rw [gg_k Q0 (by omega), gg_k Q0 (by omega), ga, gb] at he hl
    have := (sI_le he).2 hl
    rw [sI_m.mpr (by omega)] at K0
    exact K0
/-- text(what) -/
theorem in_1 {k : Int32} : ((0 : Int64) ≤ k.toInt64 ∧ k.toInt64 ≤ 1) ↔ (k = 0 ∨ k = 1) := by
  have h1 := in_n (hi := 1) (n := k) (by decide)
  constructor
  · intro y
    have h2 := h1.mp y
    have h3 := rn_ok (by decide) h2
    obtain e | e : rn_n 1 k = 0 ∨ rn_n 1 k = 1 := by omega
    · rw [e] at h3; exact Or.inl h3
    · rw [e] at h3; exact Or.inr h3
  · intro y
    rcases y with y | y <;> rw [y] <;> decide
theorem q_text (S : mo_S h m A B z tl f wl g) {k : Int32} {K : Int32 → ah_H → Prop} (k0 : k = 0 → ∀ h', mc_S h m A B z tl f wl g 0 h' → K (nI tl) h') (k1 : k = 1 → ∀ h', mc_S h m A B z tl f wl g 0 h' → K (nI wl) h') (h1 : ¬ (k = 0 ∨ k = 1) → ∀ h', mc_S h m A B z tl f wl g 1 h' → K 0 h') : w_MO_text m k h K := by
  have Q := S.1
  have M0 := mc_c S 0
  refine s_in (fun a b _ => ⟨fun _ => ⟨Q.1, s_fails0 Q.1 (fun _ => ⟨fun _ => ⟨fun hk => ⟨(sI_Q Q).1, ?_⟩, fun hk => ⟨(sI_Q Q).1, ?_⟩⟩, fun hc => absurd rfl hc⟩)⟩, fun hc => absurd hc (by decide)⟩) (fun hn _ => ⟨fun hc => absurd rfl hc, fun _ => ⟨Q.1, s_fails1 Q.1 (fun _ => ⟨fun hc => absurd hc (by decide), fun _ => h1 (fun y => hn (in_1.mpr y)) _ (mc_c S 1)⟩)⟩⟩)
  · have hk1 : k = 1 := by
      rcases in_1.mp ⟨a, b⟩ with y | y
      · exact absurd y hk
      · exact y
    show K _ _
    rw [M0.2.1.2.2.2.2.1]
    exact k1 hk1 _ M0
  · show K _ _
    rw [M0.2.1.2.2.2.1.1]
    exact k0 hk _ M0
/-- rest(a, m) -/
theorem s_twice {x y n : Nat} (hx : x < n) (hy : y < n) (hn : n < 9223372036854775808) {K : Int64 → ah_H → Prop} (hK : K (lN ((x + y) % n)) h) : w_MO_twice (lN x) (lN y) (lN n) h K := by
  have e1 : lN n - lN y = lN (n - y) := lN_sub (by omega)
  unfold w_MO_twice
  rw [e1]
  refine ⟨fun hl => ?_, fun hl => ?_⟩
  · have h1 := (pk_lLT (by omega) (by omega)).mp hl
    rw [Nat.mod_eq_of_lt (by omega)] at hK
    rw [lN_add]; exact hK
  · have h1 : ¬ x < n - y := fun w => hl ((pk_lLT (by omega) (by omega)).mpr w)
    rw [Nat.mod_eq_sub_mod (by omega), Nat.mod_eq_of_lt (by omega)] at hK
    rw [lN_sub (by omega), show x - (n - y) = x + y - n by omega]; exact hK
theorem bt_10000 : ∀ b, b < 14 → (((((10000 : Int32) >>> (nI b &&& 31)) &&& (1 : Int32)) = (1 : Int32)) ↔ 10000 / 2 ^ b % 2 = 1) := by decide +kernel
theorem rs_step {t c r n b : Nat} (ht : t = 10000 / 2 ^ (b + 1) * r % n) (hc : c = 10000 / 2 ^ b % 2) : ((t + t) % n + c * r) % n = 10000 / 2 ^ b * r % n := by
  have h1 : 10000 / 2 ^ b = 2 * (10000 / 2 ^ (b + 1)) + c := by
    rw [hc, Nat.pow_succ, ← Nat.div_div_eq_div_mul]
    omega
  have e1 : ((t + t) % n + c * r) % n = (t + t + c * r) % n := by rw [Nat.add_mod, Nat.mod_mod, ← Nat.add_mod]
  have e2 : (t + t + c * r) % n = (10000 / 2 ^ (b + 1) * r + 10000 / 2 ^ (b + 1) * r + c * r) % n := by
    rw [ht]
    generalize 10000 / 2 ^ (b + 1) * r = T
    simp [Nat.add_mod]
  rw [e1, e2, h1]
  congr 1
  generalize 10000 / 2 ^ (b + 1) = T
  grind
theorem s_re_b {a : Int32} {n r : Nat} {k : Int32} (hr : r < n) (hn : n < 9223372036854775808) {xt : Nat → Int32 → Int64 → Int32 → Int64 → ah_H → Prop} {K : Int64 → ah_H → Prop} (hx : xt m a (lN n) k (lN (10000 * r % n)) h) :
    ∀ (b t : Nat), b ≤ 14 → t = 10000 / 2 ^ b * r % n → lp_MO_rest_53 xt K (b + 1) m a (lN n) (lN r) k (lN t) (nI b - 1) h := by
  intro b
  induction b with
  | zero =>
    intro t _ ht
    rw [lp_MO_rest_53]
    refine ⟨fun _ => ?_, fun hc => absurd (by decide) hc⟩
    rw [Nat.pow_zero, Nat.div_one] at ht
    rw [ht]; exact hx
  | succ b ih =>
    intro t hb ht
    have htn : t < n := by rw [ht]; exact Nat.mod_lt _ (by omega)
    rw [nI_m1 (n := b + 1) (by omega), Nat.add_sub_cancel, lp_MO_rest_53]
    refine ⟨fun hc => absurd hc (nI_pos (by omega)), fun _ => s_twice htn htn hn (fun _ => ⟨fun hc v59 e59 => ?_, fun hc => s_twice (Nat.mod_lt _ (by omega)) hr hn (fun _ v59 e59 => ?_)⟩)⟩
    · have hbit : 10000 / 2 ^ b % 2 = 0 := by
        have : ¬ 10000 / 2 ^ b % 2 = 1 := fun y => hc ((bt_10000 b (by omega)).mpr y)
        omega
      rw [e59, ← Int32.sub_eq_add_neg]
      refine ih _ (by omega) ?_
      have := rs_step (r := r) (n := n) ht hbit.symm
      rw [Nat.zero_mul, Nat.add_zero, Nat.mod_mod] at this
      exact this
    · have hbit := (bt_10000 b (by omega)).mp hc
      rw [e59, ← Int32.sub_eq_add_neg]
      refine ih _ (by omega) ?_
      have := rs_step (r := r) (n := n) ht hbit.symm
      rw [Nat.one_mul] at this
      exact this
theorem s_re_a (Q : mo_Q h m A) {a n u : Nat} (ha : a < 18) (H : mr_D D Z a u) (h0 : 0 < n) (hn : n < 9223372036854775808) {xt : Nat → Int32 → Int64 → Int64 → ah_H → Prop} {K : Int64 → ah_H → Prop} (hx : xt m (nI a) (lN n) (lN (u % n)) (mh_S h A D Z G)) :
    ∀ (i r : Nat), i ≤ Z a → r = du_v 10000 (ro_n D a) i (Z a) % n → lp_MO_rest_41 xt K (i + 1) m (nI a) (lN n) (lN r) (nI i - 1) (mh_S h A D Z G) := by
  have hz := H.1
  intro i
  induction i with
  | zero =>
    intro r _ hr
    rw [lp_MO_rest_41]
    refine ⟨fun _ => ?_, fun hc => absurd (by decide) hc⟩
    rw [du_0, ← H.2.2.2] at hr
    rw [hr]; exact hx
  | succ i ih =>
    intro r hi hr
    have hrn : r < n := by rw [hr]; exact Nat.mod_lt _ h0
    have hd := H.2.1 i (by omega)
    rw [nI_m1 (n := i + 1) (by omega), Nat.add_sub_cancel, lp_MO_rest_41]
    refine ⟨fun hc => absurd hc (nI_pos (by omega)), fun _ => ⟨14 + 1, ?_⟩⟩
    refine s_re_b hrn hn ⟨(mh_Q Q).1, s_mat Q ha (by omega) H.1 (fun _ => ?_)⟩ 14 0 (by decide) (by rw [show (10000 : Nat) / 2 ^ 14 = 0 by decide, Nat.zero_mul]; exact (Nat.zero_mod _).symm)
    rw [rd_ro (by omega), nI_l (by omega), pk_lRem (by omega) h0 (by omega)]
    refine ⟨fun hc => ?_, s_twice (Nat.mod_lt _ h0) (Nat.mod_lt _ h0) hn (fun _ v79 e79 => ?_)⟩
    · have := (lN_z (by omega)).mp hc
      omega
    · rw [e79, ← Int32.sub_eq_add_neg]
      refine ih _ (by omega) ?_
      rw [du_s (show i < Z a by omega), hr]
      rw [← Nat.add_mod, Nat.add_comm, Nat.add_mod, Nat.mul_mod_mod, ← Nat.add_mod]
theorem re_k {x : Int} {n : Nat} (hn : 0 < n) : (0 ≤ x → x % (n : Int) = ((x.natAbs % n : Nat) : Int)) ∧ (x < 0 → x.natAbs % n = 0 → x % (n : Int) = 0) ∧ (x < 0 → x.natAbs % n ≠ 0 → x % (n : Int) = ((n - x.natAbs % n : Nat) : Int)) := by
  have hm := Nat.mod_lt x.natAbs hn
  have hd := Nat.div_add_mod x.natAbs n
  have hc : ((n * (x.natAbs / n) : Nat) : Int) = (n : Int) * ((x.natAbs / n : Nat) : Int) := Int.natCast_mul _ _
  obtain ⟨d, ed⟩ : ∃ d, d = x.natAbs / n := ⟨_, rfl⟩
  obtain ⟨r, er⟩ : ∃ r, r = x.natAbs % n := ⟨_, rfl⟩
  rw [← ed] at hd hc
  rw [← er] at hd hm ⊢
  refine ⟨fun hx => ?_, fun hx h0 => ?_, fun hx h0 => ?_⟩
  · refine ((Int.ediv_emod_unique (q := (d : Int)) (by omega)).mpr ⟨?_, by omega, by omega⟩).2
    rw [← hc]; omega
  · refine ((Int.ediv_emod_unique (q := -(d : Int)) (by omega)).mpr ⟨?_, by omega, by omega⟩).2
    rw [Int.mul_neg, ← hc]; omega
  · refine ((Int.ediv_emod_unique (q := -(d : Int) - 1) (by omega)).mpr ⟨?_, by omega, by omega⟩).2
    rw [Int.mul_sub, Int.mul_neg, ← hc]; omega
theorem q_rest (S : mo_S h m A B z tl f wl g) {a : Int32} {v : Int64} {K : Int64 → ah_H → Prop} (h0 : rk_n a < 12 → 1 ≤ v.toInt → ∀ h', mc_S h m A B z tl f wl g 0 h' → K (oL (z (rk_n a) % v.toInt)) h') (h1 : ¬ (rk_n a < 12 ∧ 1 ≤ v.toInt) → ∀ h', mc_S h m A B z tl f wl g 1 h' → K 0 h') : w_MO_rest m a v h K := by
  have Q := S.1
  have Q0 : mo_Q (ah_sI h 4 m 0) m A := sI_Q Q
  obtain ⟨D, Z, G, e, R⟩ := S.2.2.1
  have bad : ¬ (rk_n a < 12 ∧ 1 ≤ v.toInt) → bk_MO_rest_19 K m a v (1 : Int32) m h := fun hn => ⟨Q.1, s_fails1 Q.1 (fun _ => ⟨fun hc => absurd hc (by decide), fun _ => h1 hn _ (mc_c S 1)⟩)⟩
  refine s_isNone (fun ha _ => ⟨fun hc => absurd rfl hc, fun _ => ⟨fun hv => ⟨Q.1, s_fails0 Q.1 (fun _ => ⟨fun _ => ?_, fun hc => absurd rfl hc⟩)⟩, fun hv => bad (fun y => hv (by rw [Int64.le_iff_toInt_le]; exact y.2))⟩⟩) (fun ha _ => ⟨fun _ => bad (fun y => ha y.1), fun hc => absurd hc (by decide)⟩)
  rw [Int64.le_iff_toInt_le] at hv
  have hv' : 1 ≤ v.toInt := hv
  have hvl := v.toInt_lt
  obtain ⟨n, hn⟩ : ∃ n : Nat, v.toInt = n := ⟨v.toInt.toNat, by omega⟩
  have ev : v = lN n := by
    apply Int64.toInt_inj.mp
    rw [pk_lT (by omega)]; exact hn
  have K0 := h0 ha hv' _ (mc_k S R (Sx := fun _ => False) mf_rf (fun _ _ y => y) 0)
  have H := (R.1 _ ha).1
  have hz := H.1.1
  rw [hn] at K0
  rw [mo_s0 e, (rk_ok ha).2.2, ev]
  have hn0 : 0 < n := by omega
  obtain ⟨k1, k2, k3⟩ := re_k (x := z (rk_n a)) hn0
  have hm := Nat.mod_lt (z (rk_n a)).natAbs hn0
  refine ⟨(mh_Q Q0).1, A.2.1, (mh_Q Q0).2.1.2.1, (mh_Q Q0).2.2.1.2.1, in_z Q0 (by omega), fun v30 e30 => ?_⟩
  rw [gz_k Q0 (by omega)] at e30
  rw [e30, lN0]
  refine ⟨Z (rk_n a) + 1, s_re_a Q0 (by omega) H.1 hn0 (by omega) ⟨(mh_Q Q0).1, A.2.2, (mh_Q Q0).2.1.2.2, (mh_Q Q0).2.2.1.2.2, in_g Q0 (by omega), fun hg => ?_, fun hg => ⟨fun hr => ?_, fun hr => ?_⟩⟩ (Z (rk_n a)) 0 (Nat.le_refl _) (by rw [du_n]; exact (Nat.zero_mod _).symm)⟩
  · rw [gg_k Q0 (by omega), H.2] at hg
    have hx : 0 ≤ z (rk_n a) := by
      rcases Int.lt_or_le (z (rk_n a)) 0 with y | y
      · rw [sI_m.mpr y] at hg; exact absurd hg (by decide)
      · exact y
    rw [k1 hx, ← oL_n] at K0
    exact K0
  · rw [gg_k Q0 (by omega), H.2] at hg
    have hx := sI_nn hg
    have hr0 : (z (rk_n a)).natAbs % n = 0 := Nat.le_zero.mp ((pk_lLE (b := 0) (by omega) (by decide)).mp hr)
    rw [k2 hx hr0] at K0
    rw [hr0]
    exact K0
  · rw [gg_k Q0 (by omega), H.2] at hg
    have hx := sI_nn hg
    have hr0 : (z (rk_n a)).natAbs % n ≠ 0 := fun y => hr (by rw [y]; decide)
    rw [k3 hx hr0, ← oL_n] at K0
    rw [lN_sub (by omega)]
    exact K0
end MP2
