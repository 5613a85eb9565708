section MO8
variable {h : ah_H} {m : Nat} {A : Nat × Nat × Nat} {D Z : Nat → Nat} {G : Nat → Int32} {B : Nat × Nat} {z : Nat → Int} {tl wl : Nat} {f : Nat → Nat} {g : Nat → Int32}
theorem s_in {x lo hi : Int64} {K : Int32 → ah_H → Prop} (h1 : lo ≤ x → x ≤ hi → K 1 h) (h0 : ¬ (lo ≤ x ∧ x ≤ hi) → K 0 h) : w_MO_in x lo hi h K := by
  refine ⟨fun hc => ⟨Or.inl rfl, h0 (fun y => absurd y.1 (Int64.not_le.mpr hc))⟩, fun hc => ⟨fun hd => ⟨Or.inl rfl, h0 (fun y => absurd y.2 (Int64.not_le.mpr hd))⟩, fun hd => ⟨Or.inr rfl, h1 (Int64.not_lt.mp hc) (Int64.not_lt.mp hd)⟩⟩⟩
/-- a shift's length, 8193 for none -/
def rn_n (hi : Nat) (n : Int32) : Nat := if n < 0 then hi + 1 else if nI hi < n then hi + 1 else n.toNatClampNeg
theorem rn_ok {hi : Nat} {n : Int32} (hh : hi < 2 ^ 30) (h : rn_n hi n ≤ hi) : n = nI (rn_n hi n) := by
  unfold rn_n at *
  by_cases y : n < 0
  · rw [if_pos y] at h; omega
  · rw [if_neg y] at h ⊢
    by_cases w : nI hi < n
    · rw [if_pos w] at h; omega
    · rw [if_neg w] at h ⊢
      obtain ⟨j, hj, e⟩ := nI_of y
      rw [e, nI_clamp hj]
theorem rn_lt {hi : Nat} {n : Int32} (hh : hi < 2 ^ 30) : rn_n hi n ≤ hi ↔ (0 ≤ n ∧ n ≤ nI hi) := by
  constructor
  · intro h
    have := rn_ok hh h
    rw [this]
    exact ⟨nI_pos' (by omega), nI_le h (by omega)⟩
  · intro h
    unfold rn_n
    rw [if_neg (Int32.not_lt.mpr h.1), if_neg (Int32.not_lt.mpr h.2)]
    obtain ⟨j, hj, e⟩ := nI_of (Int32.not_lt.mpr h.1)
    rw [e, nI_clamp hj]
    rw [e] at h
    exact (nI_leI hj (by omega)).mp h.2
theorem in_n {hi : Nat} {n : Int32} (hh : hi < 2 ^ 30) : ((0 : Int64) ≤ n.toInt64 ∧ n.toInt64 ≤ lN hi) ↔ rn_n hi n ≤ hi := by
  rw [rn_lt hh, Int64.le_iff_toInt_le, Int64.le_iff_toInt_le, Int32.le_iff_toInt_le, Int32.le_iff_toInt_le, Int32.toInt_toInt64, lN_toInt (by omega), nI_toInt (by omega)]
  rfl
theorem s_hd2n {a b n : Int32} {F : Int32 → ah_H → Prop} (h0 : rk_n a < 12 → rk_n b < 12 → rn_n 8192 n ≤ 8192 → F 0 h) (h1 : ¬ (rk_n a < 12 ∧ rk_n b < 12 ∧ rn_n 8192 n ≤ 8192) → F 1 h) : w_MO_isNone a h (fun r6 h5 => ah_m h h5 → (¬ r6 = 0 → F 1 h5) ∧ (r6 = 0 → w_MO_isNone b h5 (fun r80 h79 => ah_m h5 h79 → (¬ r80 = 0 → F 1 h79) ∧ (r80 = 0 → w_MO_in n.toInt64 (0 : Int64) (8192 : Int64) h79 (fun r84 h83 => ah_m h79 h83 → (¬ r84 = 0 → F 0 h83) ∧ (r84 = 0 → F 1 h83)))))) := by
  refine s_isNone (fun e1 _ => ⟨fun hc => absurd rfl hc, fun _ => s_isNone (fun e2 _ => ⟨fun hc => absurd rfl hc, fun _ => s_in (fun e3 e4 _ => ⟨fun _ => h0 e1 e2 ((in_n (by decide)).mp ⟨e3, e4⟩), fun hc => absurd hc (by decide)⟩) (fun e3 _ => ⟨fun hc => absurd rfl hc, fun _ => h1 (fun y => e3 ((in_n (by decide)).mpr y.2.2))⟩)⟩) (fun e2 _ => ⟨fun _ => h1 (fun y => e2 y.2.1), fun hc => absurd hc (by decide)⟩)⟩) (fun e1 _ => ⟨fun _ => h1 (fun y => e1 y.1), fun hc => absurd hc (by decide)⟩)
theorem sh_p : ∀ s, s < 14 → (1 : Int32) <<< (nI s &&& 31) = nI (2 ^ s) := by decide +kernel
/-- shift(r, a, n) -/
theorem s_sh_a (Q : mo_Q h m A) {u n : Nat} (hn : n ≤ 8192) (L : mr_D D Z 12 lim_N) {r : Int32} {xt : Nat → Int32 → ah_H → Prop} {K : ah_H → Prop}
    (hx : ∀ (D' Z' : Nat → Nat) (V : Nat), mf_S (· = 17) D Z G D' Z' G → mr_D D' Z' 17 V → (V = u * 2 ^ n ∨ (lim_N ≤ V ∧ V ≤ u * 2 ^ n)) → xt m r (mh_S h A D' Z' G)) :
    ∀ (N : Nat) (left : Int32) (l : Nat) (D' Z' : Nat → Nat), l ≤ 13 * N → l ≤ n → (left = nI l ∨ (left ≤ 0 ∧ l = 0)) → mf_S (· = 17) D Z G D' Z' G → mr_D D' Z' 17 (u * 2 ^ (n - l)) → lp_MO_shift_50 xt K (N + 1) m r left (mh_S h A D' Z' G) := by
  intro N
  have fin : ∀ (k : Nat) (left : Int32) (D' Z' : Nat → Nat), left ≤ 0 → mf_S (· = 17) D Z G D' Z' G → mr_D D' Z' 17 (u * 2 ^ (n - 0)) → lp_MO_shift_50 xt K (k + 1) m r left (mh_S h A D' Z' G) := by
    intro k left D' Z' hl f' M
    rw [lp_MO_shift_50]
    exact ⟨fun _ => hx D' Z' _ f' M (Or.inl (by rw [Nat.sub_zero])), fun hc => absurd hl hc⟩
  induction N with
  | zero =>
    intro left l D' Z' h1 h2 h3 f' M
    have : l = 0 := by omega
    subst this
    refine fin 0 left D' Z' ?_ f' M
    rcases h3 with y | y
    · rw [y]; decide
    · exact y.1
  | succ N ih =>
    intro left l D' Z' h1 h2 h3 f' M
    by_cases h0 : l = 0
    · subst h0
      refine fin (N + 1) left D' Z' ?_ f' M
      rcases h3 with y | y
      · rw [y]; decide
      · exact y.1
    · have el : left = nI l := by
        rcases h3 with y | y
        · exact y
        · exact absurd y.2 h0
      subst el
      rw [lp_MO_shift_50]
      refine ⟨fun hc => absurd hc (nI_nle (by omega) (by omega)), fun _ => ⟨Q.1, s_against (x := 17) (y := 12) Q (by decide) (by decide) M (mf_mr f' (by decide) (by decide) L) (fun o ho _ => ⟨fun hl => ?_, fun hl => ?_⟩)⟩⟩
      · have hle := or_nn ho (Int32.not_lt.mpr hl)
        exact hx D' Z' _ f' M (Or.inr ⟨hle, Nat.mul_le_mul_left _ (Nat.pow_le_pow_right (by decide) (by omega))⟩)
      · have hlt := or_neg ho (Int32.not_le.mp hl)
        have hz : Z' 17 ≤ 617 := mr_le M (Nat.lt_trans hlt lim_617)
        have go : ∀ (s : Nat) (sI : Int32), sI = nI s → s ≤ 13 → s ≤ l → (l - s ≠ 0 → s = 13) → bk_MO_shift_84 (lp_MO_shift_50 xt K (N + 1)) K m r (nI l) sI (1 : Int32) (17 : Int32) m (mh_S h A D' Z' G) := by
          intro s sI es s1 s2 s3
          refine ⟨Q.1, ?_⟩
          rw [es, sh_p s (by omega)]
          have hp : (2 : Nat) ^ s ≤ 2 ^ 13 := Nat.pow_le_pow_right (by decide) s1
          have hp2 : (2 : Nat) ^ 13 = 8192 := by decide
          refine z_scale (r := 17) Q (by decide) M (by omega) (Nat.pow_pos (by decide)) (by omega) (fun D2 Z2 f2 M2 _ v57 e57 => ?_)
          rw [e57]
          have ev : 2 ^ s * (u * 2 ^ (n - l)) = u * 2 ^ (n - (l - s)) := by
            rw [Nat.mul_comm, Nat.mul_assoc, ← Nat.pow_add]
            congr 2
            omega
          rw [ev] at M2
          refine ih _ (l - s) D2 Z2 (by omega) (by omega) ?_ (mf_tr f' f2) M2
          by_cases hd : l - s = 0
          · right
            refine ⟨?_, hd⟩
            have : nI l + (-13) = nI l - nI 13 := by rw [Int32.sub_eq_add_neg]; rfl
            rw [this]
            by_cases h13 : l = 13
            · rw [h13]; decide
            · exact Int32.le_of_lt (nI_sbn (by omega) (by decide))
          · left
            have := s3 hd
            subst this
            have : nI l + (-13) = nI l - nI 13 := by rw [Int32.sub_eq_add_neg]; rfl
            rw [this, nI_sub (by omega)]
        refine ⟨fun hc => go 13 _ rfl (by decide) ?_ (fun _ => rfl), fun hc => go l _ rfl ?_ (Nat.le_refl _) (fun hd => by omega)⟩
        · exact (nI_leI (a := 13) (by decide) (by omega)).mp hc
        · have : ¬ 13 ≤ l := fun y => hc ((nI_leI (a := 13) (by decide) (by omega)).mpr y)
          omega
def ps_shift (z : Nat → Int) (r a n : Int32) : Nat × (Nat → Int) := if rk_n r < 12 ∧ rk_n a < 12 ∧ rn_n 8192 n ≤ 8192 then (if (z (rk_n a) * 2 ^ rn_n 8192 n).natAbs < lim_N then (0, zu_n z (rk_n r) (z (rk_n a) * 2 ^ rn_n 8192 n)) else (2, z)) else (1, z)
theorem na_p2 (x : Int) (n : Nat) : (x * 2 ^ n).natAbs = x.natAbs * 2 ^ n := by
  rw [Int.natAbs_mul, Int.natAbs_pow]
  rfl
theorem sI_p2 (x : Int) (n : Nat) : sI_n (x * 2 ^ n) = sI_n x := by
  have hp : (0 : Int) < 2 ^ n := Int.pow_pos (by decide)
  rcases Int.lt_trichotomy x 0 with a | a | a
  · rw [sI_m.mpr a, sI_m.mpr (Int.mul_neg_of_neg_of_pos a hp)]
  · rw [a, Int.zero_mul]
  · rw [sI_p.mpr a, sI_p.mpr (Int.mul_pos a hp)]
theorem q_shift (S : mo_S h m A B z tl f wl g) {r a n : Int32} {K : ah_H → Prop} (hK : ∀ h', po_S h m A B tl f wl g (ps_shift z r a n) h' → K h') : w_MO_shift m r a n h K := by
  have Q := S.1
  obtain ⟨D, Z, G, e, R⟩ := S.2.2.1
  refine s_hd2n (F := fun s h => bk_MO_shift_32 K m r a n s m h) (fun hr ha hn => ⟨Q.1, s_fails0 Q.1 (fun _ => ⟨fun _ => ⟨(sI_Q Q).1, ?_⟩, fun hc => absurd rfl hc⟩)⟩) (fun hn => ⟨Q.1, s_fails1 Q.1 (fun _ => ⟨fun hc => absurd hc (by decide), fun _ => hK _ (po_1 S (if_neg hn))⟩)⟩)
  have en := rn_ok (by decide) hn
  obtain ⟨N, hN⟩ : ∃ N, N = rn_n 8192 n := ⟨_, rfl⟩
  rw [mo_s0 e, (rk_ok hr).2.2, (rk_ok ha).2.2, en]
  have ep : ps_shift z r a n = (if (z (rk_n a) * 2 ^ N).natAbs < lim_N then (0, zu_n z (rk_n r) (z (rk_n a) * 2 ^ N)) else (2, z)) := by
    unfold ps_shift
    rw [if_pos ⟨hr, ha, hn⟩, hN]
  rw [ep] at hK
  rw [← hN] at hn ⊢
  refine z_copyRow (h := ah_sI h 4 m 0) (to := 17) (sI_Q Q) (by decide) (by omega) (R.1 _ ha).1.1 (fun D1 Z1 G1 f1 M1 g1 _ => ⟨N + 1, ?_⟩)
  have R1 : rg_D D1 Z1 G1 z := rg_k R f1 (fun x hx hy => by omega)
  have hg : G1 17 = sI_n (z (rk_n a)) := g1.trans (R.1 _ ha).1.2
  refine s_sh_a (h := ah_sI h 4 m 0) (u := (z (rk_n a)).natAbs) (n := N) Q hn R1.2 (fun D2 Z2 V f2 M2 hV => ⟨Q.1, ?_⟩) N _ N D1 Z1 (by omega) (Nat.le_refl _) (Or.inl rfl) mf_rf (by rw [Nat.sub_self, Nat.pow_zero, Nat.mul_one]; exact M1)
  have R2 : rg_D D2 Z2 G1 z := rg_k R1 f2 (fun x hx hy => by omega)
  have hz17 : ∀ v : Int, v.natAbs = V → sI_n v = sI_n (z (rk_n a)) → mz_D D2 Z2 G1 17 v := fun v hv hs => ⟨by rw [hv]; exact M2, hg.trans hs.symm⟩
  rcases hV with y | ⟨y1, y2⟩
  · refine s_tail S hr R2 (hz17 (z (rk_n a) * 2 ^ N) (by rw [na_p2, y]) (sI_p2 _ _)) (fun h' a1 a2 a3 => hK h' (po_2 rfl a1 a2 a3))
  · have hbig : ¬ (z (rk_n a) * 2 ^ N).natAbs < lim_N := by rw [na_p2]; omega
    rw [if_neg hbig] at hK
    obtain ⟨v, hv1, hv2⟩ : ∃ v : Int, v.natAbs = V ∧ sI_n v = sI_n (z (rk_n a)) := by
      have hlp := lim_pos
      rcases Int.lt_trichotomy (z (rk_n a)) 0 with b | b | b
      · exact ⟨-V, by omega, by rw [sI_m.mpr b, sI_m.mpr (by omega)]⟩
      · rw [b] at y2; simp at y2; omega
      · exact ⟨V, by omega, by rw [sI_p.mpr b, sI_p.mpr (by omega)]⟩
    refine s_tail S hr R2 (hz17 v hv1 hv2) (fun h' a1 a2 a3 => hK h' ?_)
    rw [if_neg (by omega)] at a2 a3
    exact ⟨a1, a2, a3⟩
/-- half(r, a, n) -/
theorem s_ha_a (Q : mo_Q h m A) {u n : Nat} (hn : n ≤ 8192) {r w : Int32} {xt : Nat → Int32 → Int32 → Int32 → ah_H → Prop} {K : ah_H → Prop}
    (hx : ∀ (D' Z' : Nat → Nat) (G' : Nat → Int32) (b : Bool), mf_S (· = 13) D Z G D' Z' G' → mr_D D' Z' 13 (u / 2 ^ n) → (u / 2 ^ n = 0 → G' 13 = 0 ∨ u = 0) → (u / 2 ^ n ≠ 0 → G' 13 = G 13) → (b = true ↔ u % 2 ^ n ≠ 0) → (u = 0 → G' 13 = 0 ∨ G' 13 = G 13) → xt m r w (bi_n b) (mh_S h A D' Z' G')) :
    ∀ (N : Nat) (left : Int32) (l : Nat) (D' Z' : Nat → Nat) (G' : Nat → Int32) (b : Bool), l ≤ 13 * N → l ≤ n → (left = nI l ∨ (left ≤ 0 ∧ l = 0)) → mf_S (· = 13) D Z G D' Z' G' → mr_D D' Z' 13 (u / 2 ^ (n - l)) → (u / 2 ^ (n - l) = 0 → G' 13 = 0 ∨ u = 0) → (u / 2 ^ (n - l) ≠ 0 → G' 13 = G 13) → (b = true ↔ u % 2 ^ (n - l) ≠ 0) → (u = 0 → G' 13 = 0 ∨ G' 13 = G 13) → lp_MO_half_61 xt K (N + 1) m r w (bi_n b) left (mh_S h A D' Z' G') := by
  intro N
  have fin : ∀ (k : Nat) (left : Int32) (D' Z' : Nat → Nat) (G' : Nat → Int32) (b : Bool), left ≤ 0 → mf_S (· = 13) D Z G D' Z' G' → mr_D D' Z' 13 (u / 2 ^ (n - 0)) → (u / 2 ^ (n - 0) = 0 → G' 13 = 0 ∨ u = 0) → (u / 2 ^ (n - 0) ≠ 0 → G' 13 = G 13) → (b = true ↔ u % 2 ^ (n - 0) ≠ 0) → (u = 0 → G' 13 = 0 ∨ G' 13 = G 13) → lp_MO_half_61 xt K (k + 1) m r w (bi_n b) left (mh_S h A D' Z' G') := by
    intro k left D' Z' G' b hl f' M g1 g2 g3 g4
    rw [lp_MO_half_61]
    rw [Nat.sub_zero] at M g1 g2 g3
    exact ⟨fun _ => hx D' Z' G' b f' M g1 g2 g3 g4, fun hc => absurd hl hc⟩
  induction N with
  | zero =>
    intro left l D' Z' G' b h1 h2 h3 f' M g1 g2 g3 g4
    have : l = 0 := by omega
    subst this
    refine fin 0 left D' Z' G' b ?_ f' M g1 g2 g3 g4
    rcases h3 with y | y
    · rw [y]; decide
    · exact y.1
  | succ N ih =>
    intro left l D' Z' G' b h1 h2 h3 f' M g1 g2 g3 g4
    by_cases h0 : l = 0
    · subst h0
      refine fin (N + 1) left D' Z' G' b ?_ f' M g1 g2 g3 g4
      rcases h3 with y | y
      · rw [y]; decide
      · exact y.1
    · have el : left = nI l := by
        rcases h3 with y | y
        · exact y
        · exact absurd y.2 h0
      subst el
      rw [lp_MO_half_61]
      have go : ∀ (s : Nat) (sI : Int32), sI = nI s → s ≤ 13 → s ≤ l → (l - s ≠ 0 → s = 13) → bk_MO_half_84 (lp_MO_half_61 xt K (N + 1)) K m r w (bi_n b) (nI l) sI (1 : Int32) (13 : Int32) m (mh_S h A D' Z' G') := by
        intro s sI es s1 s2 s3
        refine ⟨Q.1, ?_⟩
        rw [es, sh_p s (by omega)]
        have hp : (2 : Nat) ^ s ≤ 2 ^ 13 := Nat.pow_le_pow_right (by decide) s1
        have hp2 : (2 : Nat) ^ 13 = 8192 := by decide
        have hp0 : 0 < (2 : Nat) ^ s := Nat.pow_pos (by decide)
        have e1 : n - (l - s) = (n - l) + s := by omega
        have e2 : u / 2 ^ (n - (l - s)) = u / 2 ^ (n - l) / 2 ^ s := by rw [e1, Nat.pow_add, Nat.div_div_eq_div_mul]
        have e3 : u % 2 ^ (n - (l - s)) = u % 2 ^ (n - l) + 2 ^ (n - l) * (u / 2 ^ (n - l) % 2 ^ s) := by rw [e1, Nat.pow_add, Nat.mod_mul]
        have hpl : 0 < (2 : Nat) ^ (n - l) := Nat.pow_pos (by decide)
        have nxt : ∀ (D2 Z2 : Nat → Nat) (G2 : Nat → Int32) (b' : Bool), mf_S (· = 13) D' Z' G' D2 Z2 G2 → mr_D D2 Z2 13 (u / 2 ^ (n - l) / 2 ^ s) → (u / 2 ^ (n - l) / 2 ^ s = 0 → G2 13 = 0) → (u / 2 ^ (n - l) / 2 ^ s ≠ 0 → G2 13 = G' 13) → (b' = true ↔ u % 2 ^ (n - (l - s)) ≠ 0) → bk_MO_half_94 (lp_MO_half_61 xt K (N + 1)) K m r w (bi_n b') (nI l) (mh_S h A D2 Z2 G2) := by
          intro D2 Z2 G2 b' f2 M2 k1 k2 k3 v68 e68
          rw [e68]
          refine ih _ (l - s) D2 Z2 G2 b' (by omega) (by omega) ?_ (mf_tr f' f2) (by rw [e2]; exact M2) (fun y => Or.inl (k1 (by rw [← e2]; exact y))) (fun y => ?_) k3 (fun y => ?_)
          · by_cases hd : l - s = 0
            · right
              refine ⟨?_, hd⟩
              have : nI l + (-13) = nI l - nI 13 := by rw [Int32.sub_eq_add_neg]; rfl
              rw [this]
              by_cases h13 : l = 13
              · rw [h13]; decide
              · exact Int32.le_of_lt (nI_sbn (by omega) (by decide))
            · left
              have := s3 hd
              subst this
              have : nI l + (-13) = nI l - nI 13 := by rw [Int32.sub_eq_add_neg]; rfl
              rw [this, nI_sub (by omega)]
          · rw [e2] at y
            rw [k2 y]
            exact g2 (fun x => y (by rw [x]; exact Nat.zero_div _))
          · left
            exact k1 (by rw [y, Nat.zero_div, Nat.zero_div])
        refine z_parts (r := 13) Q (by decide) M hp0 (by omega) (fun D2 Z2 G2 f2 M2 k1 k2 _ => ⟨fun hz => nxt D2 Z2 G2 b f2 M2 k1 k2 ?_, fun hz => nxt D2 Z2 G2 true f2 M2 k1 k2 ?_⟩)
        · have hm : u / 2 ^ (n - l) % 2 ^ s = 0 := by
            rcases Nat.eq_zero_or_pos (u / 2 ^ (n - l) % 2 ^ s) with y | y
            · exact y
            · exact absurd hz (nI_nle y (by have := Nat.mod_lt (u / 2 ^ (n - l)) hp0; omega))
          rw [e3, hm, Nat.mul_zero, Nat.add_zero]; exact g3
        · constructor
          · intro _
            have hm : u / 2 ^ (n - l) % 2 ^ s ≠ 0 := fun y => hz (by rw [y]; decide)
            rw [e3]
            have : 0 < 2 ^ (n - l) * (u / 2 ^ (n - l) % 2 ^ s) := Nat.mul_pos hpl (Nat.pos_of_ne_zero hm)
            omega
          · intro _; rfl
      refine ⟨fun hc => absurd hc (nI_nle (by omega) (by omega)), fun _ => ⟨fun hc => go 13 _ rfl (by decide) ?_ (fun _ => rfl), fun hc => go l _ rfl ?_ (Nat.le_refl _) (fun hd => by omega)⟩⟩
      · exact (nI_leI (a := 13) (by decide) (by omega)).mp hc
      · have : ¬ 13 ≤ l := fun y => hc ((nI_leI (a := 13) (by decide) (by omega)).mpr y)
        omega
end MO8
