section MO9
variable {h : ah_H} {m : Nat} {A : Nat × Nat × Nat} {D Z : Nat → Nat} {G : Nat → Int32} {B : Nat × Nat} {z : Nat → Int} {tl wl : Nat} {f : Nat → Nat} {g : Nat → Int32}
theorem hf_p {x : Int} (hx : 0 ≤ x) (P : Nat) : x / (P : Int) = ((x.natAbs / P : Nat) : Int) := by
  have : x = (x.natAbs : Int) := by omega
  rw [this, Int.natAbs_natCast]
  exact (Int.natCast_ediv _ _).symm
theorem hf_n {x : Int} {P : Nat} (hP : 0 < P) (hx : x < 0) : x / (P : Int) = -((x.natAbs / P : Nat) : Int) - (if x.natAbs % P = 0 then 0 else 1) := by
  obtain ⟨u, hu⟩ : ∃ u, u = x.natAbs := ⟨_, rfl⟩
  have ex : x = -(u : Int) := by omega
  rw [← hu, ex]
  have h1 := Nat.div_add_mod u P
  have h2 := Nat.mod_lt u hP
  have h3 : ((P * (u / P) : Nat) : Int) = (P : Int) * ((u / P : Nat) : Int) := Int.natCast_mul _ _
  by_cases hz : u % P = 0
  · rw [if_pos hz]
    refine ((Int.ediv_emod_unique (r := 0) (by omega)).mpr ⟨?_, by decide, by omega⟩).1
    rw [Int.mul_sub, Int.mul_neg, ← h3]
    omega
  · rw [if_neg hz]
    refine ((Int.ediv_emod_unique (r := (P : Int) - ((u % P : Nat) : Int)) (by omega)).mpr ⟨?_, by omega, by omega⟩).1
    rw [Int.mul_sub, Int.mul_neg, ← h3]
    omega
def ps_half (z : Nat → Int) (r a n : Int32) : Nat × (Nat → Int) := if rk_n r < 12 ∧ rk_n a < 12 ∧ rn_n 8192 n ≤ 8192 then (0, zu_n z (rk_n r) (z (rk_n a) / ((2 ^ rn_n 8192 n : Nat) : Int))) else (1, z)
theorem hf_k1 {u d m P e : Nat} (h1 : d ≤ u) (h2 : P * d + m = u) (h3 : d ≤ P * d) (he : e = 0 ∨ m ≠ 0) (h4 : e ≤ 1) : (-(d : Int) - e).natAbs ≤ u := by
  generalize P * d = t at *
  omega
theorem hf_na {x : Int} {P : Nat} (hP : 0 < P) : (x / (P : Int)).natAbs ≤ x.natAbs := by
  rcases Int.lt_or_le x 0 with y | y
  · rw [hf_n hP y]
    have h1 := Nat.div_le_self x.natAbs P
    have h2 := Nat.div_add_mod x.natAbs P
    have h3 : x.natAbs / P ≤ P * (x.natAbs / P) := Nat.le_mul_of_pos_left _ hP
    by_cases hz : x.natAbs % P = 0
    · rw [if_pos hz]
      exact hf_k1 (e := 0) h1 h2 h3 (Or.inl rfl) (by decide)
    · rw [if_neg hz]
      exact hf_k1 (e := 1) h1 h2 h3 (Or.inr hz) (by decide)
  · rw [hf_p y, Int.natAbs_natCast]
    exact Nat.div_le_self _ _
theorem nn_p {d : Nat} (h : (d : Int) ≠ 0) : 0 < (d : Int) := by omega
theorem nn_m {d : Nat} (h : -(d : Int) ≠ 0) : -(d : Int) < 0 := by omega
theorem nn_m2 {d : Nat} (h : d ≠ 0) : -(d : Int) < 0 := by omega
theorem nn_q {x : Int} {P : Nat} (hx : 0 ≤ x) (h : ((x.natAbs / P : Nat) : Int) ≠ 0) : 0 < x := by
  rcases Int.lt_or_eq_of_le hx with y | y
  · exact y
  · subst y
    exact absurd (by rw [Int.natAbs_zero, Nat.zero_div]; rfl) h
theorem q_half (S : mo_S h m A B z tl f wl g) {r a n : Int32} {K : ah_H → Prop} (hK : ∀ h', po_S h m A B tl f wl g (ps_half z r a n) h' → K h') : w_MO_half m r a n h K := by
  have Q := S.1
  obtain ⟨D, Z, G, e, R⟩ := S.2.2.1
  refine s_hd2n (F := fun s h => bk_MO_half_32 K m r a n s m h) (fun hr ha hn => ⟨Q.1, s_fails0 Q.1 (fun _ => ⟨fun _ => ⟨(sI_Q Q).1, ?_⟩, fun hc => absurd rfl hc⟩)⟩) (fun hn => ⟨Q.1, s_fails1 Q.1 (fun _ => ⟨fun hc => absurd hc (by decide), fun _ => hK _ (po_1 S (if_neg hn))⟩)⟩)
  have en := rn_ok (by decide) hn
  obtain ⟨N, hN⟩ : ∃ N, N = rn_n 8192 n := ⟨_, rfl⟩
  rw [mo_s0 e, (rk_ok hr).2.2, (rk_ok ha).2.2, en]
  have ep : ps_half z r a n = (0, zu_n z (rk_n r) (z (rk_n a) / ((2 ^ N : Nat) : Int))) := by
    unfold ps_half
    rw [if_pos ⟨hr, ha, hn⟩, hN]
  rw [ep] at hK
  rw [← hN] at hn ⊢
  have hP : 0 < (2 : Nat) ^ N := Nat.pow_pos (by decide)
  have hlim : (z (rk_n a) / ((2 ^ N : Nat) : Int)).natAbs < lim_N := Nat.lt_of_le_of_lt (hf_na hP) (R.1 _ ha).2
  have done : ∀ (D2 Z2 : Nat → Nat) (G2 : Nat → Int32), mf_S (fun x => x = rk_n r ∨ 13 ≤ x) D Z G D2 Z2 G2 → mz_D D2 Z2 G2 (rk_n r) (z (rk_n a) / ((2 ^ N : Nat) : Int)) → K (mh_S (ah_sI h 4 m 0) A D2 Z2 G2) := by
    intro D2 Z2 G2 f2 M2
    refine hK _ ?_
    have := mo_fin S (c := 0) (rg_u R f2 (fun x hx hy hz => by rcases hz with y | y; exact hy y; omega) hr M2 hlim)
    exact this
  refine z_copyRow (h := ah_sI h 4 m 0) (to := 13) (sI_Q Q) (by decide) (by omega) (R.1 _ ha).1.1 (fun D1 Z1 G1 f1 M1 g1 _ => ⟨A.2.2, Q.2.1.2.2, Q.2.2.1.2.2, in_g (h := ah_sI h 4 m 0) (sI_Q Q) (by omega), fun v37 e37 => ⟨N + 1, ?_⟩⟩)
  have hg13 : G1 13 = sI_n (z (rk_n a)) := g1.trans (R.1 _ ha).1.2
  have hga : G1 (rk_n a) = sI_n (z (rk_n a)) := ((f1 _ (by omega) (by omega)).2.1).trans (R.1 _ ha).1.2
  rw [gg_k (h := ah_sI h 4 m 0) (sI_Q Q) (by omega), hga] at e37
  rw [e37]
  have f1' : mf_S (fun x => x = rk_n r ∨ 13 ≤ x) D Z G D1 Z1 G1 := mf_mo f1 (fun x hx => Or.inr (by omega))
  have key := s_ha_a (h := ah_sI h 4 m 0) (D := D1) (Z := Z1) (G := G1) (u := (z (rk_n a)).natAbs) (n := N) (r := nI (rk_n r)) (w := sI_n (z (rk_n a))) (K := K) Q hn (xt := fun (x69 : Nat) (x70 : Int32) (x71 : Int32) (x72 : Int32) h73 => (0 ≤ x71 → (bk_MO_half_162 K x69 x70 h73)) ∧ (¬ 0 ≤ x71 → ((x72 = 0 → (bk_MO_half_162 K x69 x70 h73)) ∧ (¬ x72 = 0 → (ah_T h73 x69 = 5 ∧ ∃ q84, ah_R h73 15 x69 = some q84 ∧ ah_T h73 q84 = 100 ∧ vp_in (13 : Int32) (ah_N h73 q84) ∧ ∀ h88 : ah_H, h88 = ah_cI h73 q84 (upd (ah_bI h73 q84) (13 : Int32).toNatClampNeg (-1 : Int32)) → w_MO_setRow x69 (14 : Int32) (-1 : Int64) h88 (fun h92 => ah_m h88 h92 → ∃ q96, ah_R h92 14 x69 = some q96 ∧ ah_T h92 q96 = 100 ∧ vp_in (13 : Int32) (ah_N h92 q96) ∧ (¬ (ah_bI h92 q96 (13 : Int32).toNatClampNeg) = 0 → (bk_MO_half_145 K x69 x70 h92)) ∧ ((ah_bI h92 q96 (13 : Int32).toNatClampNeg) = 0 → (∃ q111, ah_R h92 15 x69 = some q111 ∧ ah_T h92 q111 = 100 ∧ vp_in (13 : Int32) (ah_N h92 q111) ∧ ∀ h115 : ah_H, h115 = ah_cI h92 q111 (upd (ah_bI h92 q111) (13 : Int32).toNatClampNeg (0 : Int32)) → bk_MO_half_145 K x69 x70 h115))))))))
    (fun D2 Z2 G2 b f2 M2 k1 k2 k3 k4 => by
      have f2' : mf_S (fun x => x = rk_n r ∨ 13 ≤ x) D Z G D2 Z2 G2 := mf_tr f1' (mf_mo f2 (fun x hx => Or.inr (by omega)))
      have s0 : (z (rk_n a)).natAbs / 2 ^ N = 0 → G2 13 = 0 := by
        intro y
        rcases k1 y with w | w
        · exact w
        · rcases k4 w with v | v
          · exact v
          · rw [v, hg13]; exact sI_0.mpr (by omega)
      have keep : ∀ v : Int, v.natAbs = (z (rk_n a)).natAbs / 2 ^ N → (v ≠ 0 → sI_n v = sI_n (z (rk_n a))) → v = z (rk_n a) / ((2 ^ N : Nat) : Int) → bk_MO_half_162 K m (nI (rk_n r)) (mh_S (ah_sI h 4 m 0) A D2 Z2 G2) := by
        intro v hv hs he
        refine ⟨Q.1, z_copyRow (h := ah_sI h 4 m 0) (fr := 13) (sI_Q Q) (by omega) (by decide) M2 (fun D3 Z3 G3 f3 M3 g3 _ => done D3 Z3 G3 (mf_tr f2' (mf_mo f3 (fun x hx => Or.inl hx))) ?_)⟩
        rw [← he]
        refine ⟨by rw [hv]; exact M3, g3.trans ?_⟩
        by_cases hz : v = 0
        · rw [hz, s0 (by rw [← hv, hz]; rfl)]; exact (sI_0.mpr rfl).symm
        · rw [hs hz, k2 (by omega), hg13]
      refine ⟨fun hp => ?_, fun hp => ⟨fun hb => ?_, fun hb => ?_⟩⟩
      · have hx : 0 ≤ z (rk_n a) := by
          rcases Int.lt_or_le (z (rk_n a)) 0 with y | y
          · rw [sI_m.mpr y] at hp; exact absurd hp (by decide)
          · exact y
        refine keep (((z (rk_n a)).natAbs / 2 ^ N : Nat) : Int) (Int.natAbs_natCast _) (fun hz => ?_) (hf_p hx _).symm
        rw [sI_p.mpr (nn_p hz), sI_p.mpr (nn_q hx hz)]
      · have hx : z (rk_n a) < 0 := by
          rcases Int.lt_or_le (z (rk_n a)) 0 with y | y
          · exact y
          · exfalso
            apply hp
            rcases Int.lt_or_eq_of_le y with w | w
            · rw [sI_p.mpr w]; decide
            · rw [← w]; decide
        have hb' : b = false := bi_0.mp hb
        have hm : (z (rk_n a)).natAbs % 2 ^ N = 0 := by
          rcases Nat.eq_zero_or_pos ((z (rk_n a)).natAbs % 2 ^ N) with y | y
          · exact y
          · have := k3.mpr (by omega)
            rw [hb'] at this
            exact absurd this (by decide)
        refine keep (-(((z (rk_n a)).natAbs / 2 ^ N : Nat) : Int)) (by rw [Int.natAbs_neg, Int.natAbs_natCast]) (fun hz => ?_) ?_
        · rw [sI_m.mpr (nn_m hz), sI_m.mpr hx]
        · rw [hf_n hP hx, if_pos hm, Int.sub_zero]
      · have hx : z (rk_n a) < 0 := by
          rcases Int.lt_or_le (z (rk_n a)) 0 with y | y
          · exact y
          · exfalso
            apply hp
            rcases Int.lt_or_eq_of_le y with w | w
            · rw [sI_p.mpr w]; decide
            · rw [← w]; decide
        have hb' : b = true := by
          cases b
          · exact absurd rfl hb
          · rfl
        have hm := k3.mp hb'
        refine ⟨Q.1, A.2.2, Q.2.1.2.2, Q.2.2.1.2.2, in_g (i := 13) (h := ah_sI h 4 m 0) (sI_Q Q) (by decide), fun h88 e88 => ?_⟩
        rw [show (13 : Int32).toNatClampNeg = 13 from rfl, mw_g] at e88
        rw [e88]
        have f88 : mf_S (fun x => x = rk_n r ∨ 13 ≤ x) D Z G D2 Z2 (upd G2 13 (-1)) := mf_tr f2' (fun x _ hx => ⟨rfl, pk_un (fun y => hx (Or.inr (by omega))), fun _ _ => rfl⟩)
        refine z_setRow (h := ah_sI h 4 m 0) (r := 14) (sI_Q Q) (by decide) (fun D3 Z3 G3 f3 M3 _ => ?_)
        have f3' : mf_S (fun x => x = rk_n r ∨ 13 ≤ x) D Z G D3 Z3 G3 := mf_tr f88 (mf_mo f3 (fun x hx => Or.inr (by omega)))
        have M13 : mr_D D3 Z3 13 ((z (rk_n a)).natAbs / 2 ^ N) := mf_mr (Z := Z2) (G := upd G2 13 (-1)) f3 (by decide) (by decide) M2
        have hgm : G3 13 = -1 := ((f3 13 (by decide) (by decide)).2.1).trans pk_us
        have hz13 : Z3 13 ≤ 617 := mr_le M13 (Nat.lt_of_le_of_lt (Nat.div_le_self _ _) (Nat.lt_trans (R.1 _ ha).2 lim_617))
        have e14 : (-1 : Int64).toInt = -1 := by decide
        rw [e14] at M3
        have last : ∀ (G4 : Nat → Int32), mf_S (fun x => x = rk_n r ∨ 13 ≤ x) D Z G D3 Z3 G4 → mz_D D3 Z3 G4 13 (-(((z (rk_n a)).natAbs / 2 ^ N : Nat) : Int)) → mz_D D3 Z3 G4 14 (-1) → bk_MO_half_145 K m (nI (rk_n r)) (mh_S (ah_sI h 4 m 0) A D3 Z3 G4) := by
          intro G4 f4 m13 m14
          refine ⟨Q.1, s_summ (h := ah_sI h 4 m 0) (x := 13) (y := 14) (s := 1) (sI_Q Q) (by decide) (by decide) (Or.inl rfl) m13 m14 (by omega) (by have := mr_le m14.1 (N := 1) (by decide); omega) (fun D5 Z5 G5 f5 M5 _ => ?_)⟩
          refine z_copyRow (h := ah_sI h 4 m 0) (fr := 17) (sI_Q Q) (by omega) (by decide) M5.1 (fun D6 Z6 G6 f6 M6 g6 _ => done D6 Z6 G6 (mf_tr f4 (mf_tr (mf_mo f5 (fun x hx => Or.inr (by omega))) (mf_mo f6 (fun x hx => Or.inl hx)))) ?_)
          have ev : -(((z (rk_n a)).natAbs / 2 ^ N : Nat) : Int) + 1 * -1 = z (rk_n a) / ((2 ^ N : Nat) : Int) := by
            rw [hf_n hP hx, if_neg hm]; omega
          rw [ev] at M5 M6
          exact ⟨M6, g6.trans M5.2⟩
        refine ⟨A.2.1, Q.2.1.2.1, Q.2.2.1.2.1, in_z (i := 13) (h := ah_sI h 4 m 0) (sI_Q Q) (by decide), fun hz => last G3 f3' ⟨by rw [Int.natAbs_neg, Int.natAbs_natCast]; exact M13, ?_⟩ M3, fun hz => ⟨A.2.2, Q.2.1.2.2, Q.2.2.1.2.2, in_g (i := 13) (h := ah_sI h 4 m 0) (sI_Q Q) (by decide), fun h115 e115 => ?_⟩⟩
        · rw [hgm]
          rw [show (13 : Int32) = nI 13 from rfl, gz_k (h := ah_sI h 4 m 0) (sI_Q Q) (by decide)] at hz
          have : Z3 13 ≠ 0 := fun y => hz (by rw [y]; rfl)
          have : (z (rk_n a)).natAbs / 2 ^ N ≠ 0 := fun y => this ((mr_0 M13).mp y)
          exact (sI_m.mpr (nn_m2 this)).symm
        · rw [show (13 : Int32) = nI 13 from rfl, gz_k (h := ah_sI h 4 m 0) (sI_Q Q) (by decide)] at hz
          have h0 : Z3 13 = 0 := (nI_eq (b := 0) (by omega) (by decide)).mp hz
          have hv0 : (z (rk_n a)).natAbs / 2 ^ N = 0 := (mr_0 M13).mpr h0
          rw [show (13 : Int32).toNatClampNeg = 13 from rfl, mw_g] at e115
          rw [e115]
          refine last _ (mf_tr f3' (fun x _ hx => ⟨rfl, pk_un (fun y => hx (Or.inr (by omega))), fun _ _ => rfl⟩)) ⟨by rw [Int.natAbs_neg, Int.natAbs_natCast]; exact M13, ?_⟩ ⟨M3.1, (pk_un (by decide)).trans M3.2⟩
          rw [pk_us, hv0]; decide)
    N (nI N) N D1 Z1 G1 false (by omega) (Nat.le_refl _) (Or.inl rfl) mf_rf (by rw [Nat.sub_self, Nat.pow_zero, Nat.div_one]; exact M1) (fun y => Or.inr (by rw [Nat.sub_self, Nat.pow_zero, Nat.div_one] at y; exact y)) (fun _ => rfl) (by rw [Nat.sub_self, Nat.pow_zero, Nat.mod_one]; exact ⟨fun y => absurd y (by decide), fun y => absurd rfl y⟩) (fun _ => Or.inr rfl)
  exact key
/-- gcd(r, a, b) -/
def ps_gcd (z : Nat → Int) (r a b : Int32) : Nat × (Nat → Int) := if rk_n r < 12 ∧ rk_n a < 12 ∧ rk_n b < 12 then (0, zu_n z (rk_n r) ((Nat.gcd (z (rk_n a)).natAbs (z (rk_n b)).natAbs : Nat) : Int)) else (1, z)
def gc_R : Nat → Prop := fun x => 13 ≤ x ∧ x ≤ 16
theorem s_gc_a (Q : mo_Q h m A) {c lim : Nat} (hlim : lim < 10000 ^ 617) {r : Int32} {xt : Nat → Int32 → ah_H → Prop} {K : ah_H → Prop}
    (hx : ∀ (D' Z' : Nat → Nat) (G' : Nat → Int32), mf_S gc_R D Z G D' Z' G' → mr_D D' Z' 13 c → xt m r (mh_S h A D' Z' G')) :
    ∀ (N u v : Nat) (D' Z' : Nat → Nat) (G' : Nat → Int32), v < N → v < lim → u < lim → Nat.gcd u v = c → mf_S gc_R D Z G D' Z' G' → mr_D D' Z' 13 u → mr_D D' Z' 14 v → lp_MO_gcd_49 xt K N m r (mh_S h A D' Z' G') := by
  intro N
  induction N with
  | zero => intro u v D' Z' G' hN; omega
  | succ N ih =>
    intro u v D' Z' G' hN hv hu hg f' U V
    rw [lp_MO_gcd_49]
    have hz14 := mr_le V (Nat.lt_trans hv hlim)
    refine ⟨Q.1, A.2.1, Q.2.1.2.1, Q.2.2.1.2.1, in_z (i := 14) Q (by decide), fun hc => ?_, fun hc => ?_⟩
    · rw [show (14 : Int32) = nI 14 from rfl, gz_k Q (by decide)] at hc
      have h0 : Z' 14 = 0 := by
        rcases Nat.eq_zero_or_pos (Z' 14) with y | y
        · exact y
        · exact absurd hc (nI_nle y (by omega))
      have hv0 := (mr_0 V).mpr h0
      rw [hv0, Nat.gcd_zero_right] at hg
      rw [hg] at U
      exact hx D' Z' G' f' U
    · rw [show (14 : Int32) = nI 14 from rfl, gz_k Q (by decide)] at hc
      have hv0 : 0 < v := Nat.pos_of_ne_zero (fun y => hc (by rw [(mr_0 V).mp y]; decide))
      refine s_quotient (x := 13) (y := 14) Q (by decide) (by decide) U V hv0 (by omega) (fun D1 Z1 G1 f1 M15 M16 _ => ?_)
      have V1 : mr_D D1 Z1 14 v := mf_mr f1 (by decide) (by unfold cd_R; omega) V
      refine z_copyRow (to := 13) (fr := 14) Q (by decide) (by decide) V1 (fun D2 Z2 G2 f2 U2 _ _ => ?_)
      have W2 : mr_D D2 Z2 16 (u % v) := by
        have := mf_mr f2 (by decide) (by decide) M16.1
        rw [Int.natAbs_natCast] at this
        exact this
      refine z_copyRow (to := 14) (fr := 16) Q (by decide) (by decide) W2 (fun D3 Z3 G3 f3 V3 _ _ => ?_)
      have U3 : mr_D D3 Z3 13 v := mf_mr f3 (by decide) (by decide) U2
      have hm := Nat.mod_lt u hv0
      exact ih v (u % v) D3 Z3 G3 (by omega) (by omega) hv (by rw [eu_g, hg]) (mf_tr f' (mf_tr (mf_mo f1 (fun x hx => by unfold cd_R at hx; unfold gc_R; omega)) (mf_tr (mf_mo f2 (fun x hx => by unfold gc_R; omega)) (mf_mo f3 (fun x hx => by unfold gc_R; omega))))) U3 V3
theorem q_gcd (S : mo_S h m A B z tl f wl g) {r a b : Int32} {K : ah_H → Prop} (hK : ∀ h', po_S h m A B tl f wl g (ps_gcd z r a b) h' → K h') : w_MO_gcd m r a b h K := by
  have Q := S.1
  obtain ⟨D, Z, G, e, R⟩ := S.2.2.1
  refine s_hd3 (F := fun s h => bk_MO_gcd_27 K m r a b s m h) (fun hr ha hb => ⟨Q.1, s_fails0 Q.1 (fun _ => ⟨fun _ => ⟨(sI_Q Q).1, ?_⟩, fun hc => absurd rfl hc⟩)⟩) (fun hn => ⟨Q.1, s_fails1 Q.1 (fun _ => ⟨fun hc => absurd hc (by decide), fun _ => hK _ (po_1 S (if_neg hn))⟩)⟩)
  rw [mo_s0 e, (rk_ok hr).2.2, (rk_ok ha).2.2, (rk_ok hb).2.2]
  have la := (R.1 _ ha).2
  have lb := (R.1 _ hb).2
  refine z_copyRow (h := ah_sI h 4 m 0) (to := 13) (sI_Q Q) (by decide) (by omega) (R.1 _ ha).1.1 (fun D1 Z1 G1 f1 M1 g1 _ => z_copyRow (h := ah_sI h 4 m 0) (to := 14) (sI_Q Q) (by decide) (by omega) (mf_mr f1 (by omega) (by omega) (R.1 _ hb).1.1) (fun D2 Z2 G2 f2 M2 g2 _ => ⟨(z (rk_n b)).natAbs + 1, ?_⟩))
  refine s_gc_a (h := ah_sI h 4 m 0) (D := D2) (Z := Z2) (G := G2) (lim := lim_N) (c := Nat.gcd (z (rk_n a)).natAbs (z (rk_n b)).natAbs) Q lim_617 (fun D3 Z3 G3 f3 M3 => ?_) _ (z (rk_n a)).natAbs (z (rk_n b)).natAbs D2 Z2 G2 (Nat.lt_succ_self _) lb la rfl mf_rf (mf_mr f2 (by decide) (by decide) M1) M2
  have hgl : Nat.gcd (z (rk_n a)).natAbs (z (rk_n b)).natAbs < lim_N := by
    rcases Nat.eq_zero_or_pos (z (rk_n a)).natAbs with y | y
    · rw [y, Nat.gcd_zero_left]; exact lb
    · exact Nat.lt_of_le_of_lt (Nat.gcd_le_left _ y) la
  obtain ⟨c, hc⟩ : ∃ c, c = Nat.gcd (z (rk_n a)).natAbs (z (rk_n b)).natAbs := ⟨_, rfl⟩
  rw [← hc] at M3 hgl
  have hz13 := mr_le M3 (Nat.lt_trans hgl lim_617)
  have f4 : mf_S (fun x => x = rk_n r ∨ 13 ≤ x) D Z G D3 Z3 G3 := mf_tr (mf_mo f1 (fun x hx => Or.inr (by omega))) (mf_tr (mf_mo f2 (fun x hx => Or.inr (by omega))) (mf_mo f3 (fun x hx => Or.inr hx.1)))
  have last : ∀ s : Int32, s = sI_n (c : Int) → bk_MO_gcd_107 K m (nI (rk_n r)) s (13 : Int32) A.2.2 (mh_S (ah_sI h 4 m 0) A D3 Z3 G3) := by
    intro s hs
    refine ⟨Q.2.2.1.2.2, in_g (i := 13) (h := ah_sI h 4 m 0) (sI_Q Q) (by decide), fun h77 e77 => ?_⟩
    rw [show (13 : Int32).toNatClampNeg = 13 from rfl, mw_g] at e77
    rw [e77]
    refine ⟨Q.1, z_copyRow (h := ah_sI h 4 m 0) (fr := 13) (sI_Q Q) (by omega) (by decide) M3 (fun D5 Z5 G5 f5 M5 g5 _ => hK _ ?_)⟩
    have f6 : mf_S (fun x => x = rk_n r ∨ 13 ≤ x) D Z G D5 Z5 G5 := mf_tr f4 (mf_tr (D' := D3) (Z' := Z3) (G' := upd G3 13 s) (fun x _ hx => ⟨rfl, pk_un (fun y => hx (Or.inr (by omega))), fun _ _ => rfl⟩) (mf_mo f5 (fun x hx => Or.inl hx)))
    have := mo_fin S (c := 0) (rg_u (v := (c : Int)) R f6 (fun x hx hy hz => by rcases hz with y | y; exact hy y; omega) hr ⟨by rw [Int.natAbs_natCast]; exact M5, g5.trans (pk_us.trans hs)⟩ (by rw [Int.natAbs_natCast]; exact hgl))
    unfold po_S ps_gcd
    rw [if_pos ⟨hr, ha, hb⟩, ← hc]
    exact this
  refine ⟨Q.1, A.2.2, Q.2.1.2.2, A.2.1, Q.2.1.2.1, Q.2.2.1.2.1, in_z (i := 13) (h := ah_sI h 4 m 0) (sI_Q Q) (by decide), fun hl => last 0 ?_, fun hl => last 1 ?_⟩
  · rw [show (13 : Int32) = nI 13 from rfl, gz_k (h := ah_sI h 4 m 0) (sI_Q Q) (by decide)] at hl
    have h0 : Z3 13 = 0 := by
      rcases Nat.eq_zero_or_pos (Z3 13) with y | y
      · exact y
      · exact absurd hl (nI_nle y (by omega))
    have := (mr_0 M3).mpr h0
    exact (sI_0.mpr (by omega)).symm
  · rw [show (13 : Int32) = nI 13 from rfl, gz_k (h := ah_sI h 4 m 0) (sI_Q Q) (by decide)] at hl
    have h0 : Z3 13 ≠ 0 := fun y => hl (by rw [y]; decide)
    have : c ≠ 0 := fun y => h0 ((mr_0 M3).mp y)
    exact (sI_p.mpr (by omega)).symm
end MO9
