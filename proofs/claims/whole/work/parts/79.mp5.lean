section MP5
variable {h : ah_H} {m : Nat} {A : Nat × Nat × Nat} {D Z : Nat → Nat} {G : Nat → Int32} {B : Nat × Nat} {z : Nat → Int} {tl wl : Nat} {f : Nat → Nat} {g : Nat → Int32}
/-- the tape -/
def tq_S (h : ah_H) (m p tl : Nat) (f : Nat → Nat) : Prop := ah_R h 16 m = some p ∧ ah_T h p = 100 ∧ ah_N h p = 2600 ∧ ah_I h 5 m = nI tl ∧ tl ≤ 2600 ∧ (∀ k, f k < 256) ∧ ∀ k, k < tl → ah_bI h p k = nI (f k)
theorem tq_mh {p : Nat} (T : tq_S h m p tl f) (h1 : p ≠ A.1) (h2 : p ≠ A.2.1) (h3 : p ≠ A.2.2) : tq_S (mh_S h A D Z G) m p tl f := by
  unfold tq_S at *
  rw [mh_R, mh_T, mh_N, mh_I, mh_o h1 h2 h3]; exact T
theorem s_rd_a {p s : Nat} (hT : ah_T h m = 5) (T : tq_S h m p tl f) {mi : Int32} {x112 : ah_H → Prop} {x120 : Nat → Int32 → Int32 → ah_H → Prop} {K : Int32 → ah_H → Prop} (h0 : ¬ (∀ i, s ≤ i → i < tl → tx_D f i) → x112 h) (h1 : (∀ i, s ≤ i → i < tl → tx_D f i) → x120 m mi (nI s) h) :
    ∀ (k i : Nat), tl = i + k → s ≤ i → (∀ j, s ≤ j → j < i → tx_D f j) → ∃ m', lp_MO_reads_82 x112 x120 K m' m mi (nI s) (nI i) h := by
  have ht := T.2.2.2.2.1
  intro k
  induction k with
  | zero =>
    intro i hi hs H
    refine ⟨0 + 1, ?_⟩
    rw [lp_MO_reads_82, T.2.2.2.1]
    exact ⟨hT, fun _ => h1 (fun j a b => H j a (by omega)), fun hc => absurd (nI_le (by omega) (by omega)) hc⟩
  | succ k ih =>
    intro i hi hs H
    have hv : vp_in (nI i) (ah_N h p) := by rw [T.2.2.1]; exact vp_in_nI (by omega) (by decide)
    have hb : ah_bI h p (nI i).toNatClampNeg = nI (f i) := by rw [nI_clamp (by omega)]; exact T.2.2.2.2.2.2 i (by omega)
    have hf := T.2.2.2.2.2.1 i
    by_cases hd : tx_D f i
    · obtain ⟨m', hm⟩ := ih (i + 1) (by omega) (by omega) (fun j a b => by
        by_cases e : j = i
        · rw [e]; exact hd
        · exact H j a (by omega))
      refine ⟨m' + 1, ?_⟩
      unfold tx_D at hd
      rw [lp_MO_reads_82, T.2.2.2.1]
      refine ⟨hT, fun hc => absurd hc (nI_ge (by omega) (by omega)), fun _ => ⟨p, T.1, T.2.1, hv, fun hl => ?_, fun _ => ⟨p, T.1, T.2.1, hv, fun _ v e => ?_, fun hl => ?_⟩⟩⟩
      · rw [hb] at hl
        exact absurd hl (nI_nlt (b := 48) hd.1 (by omega))
      · rw [e, nI_1]; exact hm
      · rw [hb] at hl
        exact absurd (nI_le (b := 57) hd.2 (by decide)) hl
    · have hno : ¬ (∀ i, s ≤ i → i < tl → tx_D f i) := fun w => hd (w i hs (by omega))
      refine ⟨0 + 1, ?_⟩
      rw [lp_MO_reads_82, T.2.2.2.1]
      refine ⟨hT, fun hc => absurd hc (nI_ge (by omega) (by omega)), fun _ => ⟨p, T.1, T.2.1, hv, fun hl => h0 hno, fun hl => ⟨p, T.1, T.2.1, hv, fun hg v e => ?_, fun hl => h0 hno⟩⟩⟩
      exfalso
      rw [hb] at hl hg
      apply hd
      unfold tx_D
      refine ⟨Nat.le_of_not_lt (fun w => hl (nI_lt (b := 48) w (by decide))), (nI_leI (b := 57) (by omega) (by decide)).mp hg⟩
theorem tx_Vs {s k : Nat} : ∀ j, tx_V f s (k + j) = tx_V f s k * 10 ^ j + tx_V f (s + k) j
  | 0 => by rw [Nat.add_zero, Nat.pow_zero, Nat.mul_one]; rfl
  | j + 1 => by
    have e1 : tx_V f s (k + (j + 1)) = tx_V f s (k + j) * 10 + (f (s + (k + j)) - 48) := rfl
    have e2 : tx_V f (s + k) (j + 1) = tx_V f (s + k) j * 10 + (f (s + k + j) - 48) := rfl
    rw [e1, e2, tx_Vs j, Nat.pow_succ, Nat.add_mul, Nat.mul_assoc, ← Nat.add_assoc s k j, Nat.add_assoc]
theorem s_rd_i {p st en : Nat} (hT : ah_T h m = 5) (T : tq_S h m p tl f) (hse : st ≤ en) (he : en ≤ tl) (hd : ∀ i, st ≤ i → i < en → tx_D f i) (h4 : en - st ≤ 4) {a b c : Int32} {xt : Nat → Int32 → Int32 → Int32 → Int32 → Int32 → ah_H → Prop} {K : Int32 → ah_H → Prop} (hx : xt m a b c (nI en) (nI (tx_V f st (en - st))) h) :
    ∀ (k i : Nat), en = i + k → st ≤ i → ∃ m', lp_MO_reads_155 xt K m' m a b c (nI en) (nI (tx_V f st (i - st))) (nI i) h := by
  have ht := T.2.2.2.2.1
  intro k
  induction k with
  | zero =>
    intro i hi hs
    have e0 : i = en := by omega
    subst e0
    refine ⟨0 + 1, ?_⟩
    rw [lp_MO_reads_155]
    exact ⟨fun _ => hx, fun hc => absurd (nI_le (Nat.le_refl _) (by omega)) hc⟩
  | succ k ih =>
    intro i hi hs
    obtain ⟨m', hm⟩ := ih (i + 1) (by omega) (by omega)
    have hdi := hd i hs (by omega)
    unfold tx_D at hdi
    refine ⟨m' + 1, ?_⟩
    rw [lp_MO_reads_155]
    refine ⟨fun hc => absurd hc (nI_ge (by omega) (by omega)), fun _ => ⟨hT, p, T.1, T.2.1, by rw [T.2.2.1]; exact vp_in_nI (by omega) (by decide), fun v88 e88 v89 e89 => ?_⟩⟩
    have ev : v88 = nI (tx_V f st (i + 1 - st)) := by
      rw [e88, nI_clamp (by omega), T.2.2.2.2.2.2 i (by omega)]
      show nI 10 * nI _ + nI _ - nI 48 = _
      rw [pk_mul, nI_add, nI_sub (by omega), show i + 1 - st = (i - st) + 1 by omega]
      have e1 : tx_V f st (i - st + 1) = tx_V f st (i - st) * 10 + (f (st + (i - st)) - 48) := rfl
      rw [e1, show st + (i - st) = i by omega]
      congr 1
      omega
    rw [ev, e89, nI_1]
    exact hm
theorem s_rd_o {h0 : ah_H} (Q : mo_Q h0 m A) {p s : Nat} (T : tq_S h0 m p tl f) (n1 : p ≠ A.1) (n2 : p ≠ A.2.1) (n3 : p ≠ A.2.2) (hs : s ≤ tl) (hd : ∀ i, s ≤ i → i < tl → tx_D f i) {mi : Int32} {xt : Nat → Int32 → Int32 → ah_H → Prop} {K : Int32 → ah_H → Prop}
    (hx : ∀ (D' : Nat → Nat) (n : Nat), rf_D 17 D D' → n ≤ 1300 → (∀ j, j < n → ro_n D' 17 j < 10000) → dg_v 10000 (ro_n D' 17) n = tx_V f s (tl - s) → xt m mi (nI n) (mh_S h0 A D' Z G)) :
    ∀ (N n en : Nat) (D' : Nat → Nat), en - s ≤ 4 * N → s < en → en + 4 * n = tl → rf_D 17 D D' → (∀ j, j < n → ro_n D' 17 j < 10000) → tx_V f s (tl - s) = tx_V f s (en - s) * 10000 ^ n + dg_v 10000 (ro_n D' 17) n → lp_MO_reads_128 xt K (N + 1) m mi (nI s) (nI n) (nI en) (mh_S h0 A D' Z G) := by
  have ht := T.2.2.2.2.1
  intro N
  induction N with
  | zero => intro n en D' a b; omega
  | succ N ih =>
    intro n en D' hN hse hen f1 h1 hv
    have T' : tq_S (mh_S h0 A D' Z G) m p tl f := tq_mh T n1 n2 n3
    rw [lp_MO_reads_128]
    -- behind a chunk
    have wr : ∀ (st : Nat), s ≤ st → st ≤ en → en - st ≤ 4 → (st = s ∨ en = st + 4) → bk_MO_reads_153 (lp_MO_reads_128 xt K (N + 1)) K m mi (nI s) (nI n) (nI en) (0 : Int32) (nI st) (mh_S h0 A D' Z G) := by
      intro st c1 c2 c3 c4
      have hlt : tx_V f st (en - st) < 10000 := Nat.lt_of_lt_of_le (tx_Vlt (fun i a b => hd i (by omega) (by omega))) (show 10 ^ (en - st) ≤ 10 ^ 4 from Nat.pow_le_pow_right (by decide) c3)
      have key := s_rd_i (h := mh_S h0 A D' Z G) (K := K) (a := mi) (b := nI s) (c := nI n) (mh_Q Q).1 T' c2 (by omega) (fun i a b => hd i (by omega) (by omega)) c3 (xt := fun (x90 : Nat) (x91 : Int32) (x92 : Int32) (x93 : Int32) (x94 : Int32) (x95 : Int32) h96 => ah_T h96 x90 = 5 ∧ ∃ q98, ah_R h96 13 x90 = some q98 ∧ ah_T h96 q98 = 100 ∧ vp_in ((22100 : Int32) + x93) (ah_N h96 q98) ∧ ∀ h102 : ah_H, h102 = ah_cI h96 q98 (upd (ah_bI h96 q98) ((22100 : Int32) + x93).toNatClampNeg x95) → ∀ v106 : Int32, v106 = x93 + 1 → ∀ v107 : Int32, v107 = x94 + (-4) → (lp_MO_reads_128 xt K (N + 1)) x90 x91 x92 v106 v107 h102) (by
        refine ⟨(mh_Q Q).1, A.1, (mh_Q Q).2.1.1, (mh_Q Q).2.2.1.1, by rw [e17_k]; exact in_d Q (by omega), fun h102 e102 v106 e106 v107 e107 => ?_⟩
        rw [e17_k, nI_clamp (by omega), mw_d Q] at e102
        rw [e102, e106, nI_1, e107, show nI en + (-4) = nI en - nI 4 by rw [Int32.sub_eq_add_neg]; rfl]
        have f2 : rf_D 17 D (dg_u D' (1300 * 17 + n) (tx_V f st (en - st))) := rf_tr f1 (rf_u (by omega))
        have g1 : ∀ j, j < n + 1 → ro_n (dg_u D' (1300 * 17 + n) (tx_V f st (en - st))) 17 j < 10000 := fun j hj => by
          rw [ro_u]
          by_cases e : j = n
          · rw [e, dg_us]; exact hlt
          · rw [dg_un e]; exact h1 j (by omega)
        have g2 : dg_v 10000 (ro_n (dg_u D' (1300 * 17 + n) (tx_V f st (en - st))) 17) (n + 1) = dg_v 10000 (ro_n D' 17) n + tx_V f st (en - st) * 10000 ^ n := by
          rw [ro_u]
          show dg_v 10000 _ n + dg_u _ n _ n * 10000 ^ n = _
          rw [dg_us_v (Nat.le_refl _), dg_us]
        by_cases hmore : s < st
        · have e4 : en = st + 4 := by
            rcases c4 with y | y
            · omega
            · exact y
          rw [nI_sub (by omega), show en - 4 = st by omega]
          refine ih (n + 1) st _ (by omega) hmore (by omega) f2 g1 ?_
          rw [hv, g2]
          have e5 : tx_V f s (en - s) = tx_V f s (st - s) * 10000 + tx_V f st (en - st) := by
            have := tx_Vs (f := f) (s := s) (k := st - s) (en - st)
            rw [show st - s + (en - st) = en - s by omega, show s + (st - s) = st by omega] at this
            rw [this, show en - st = 4 by omega]
          rw [e5, Nat.pow_succ, Nat.add_mul]
          generalize 10000 ^ n = P
          generalize tx_V f s (st - s) = a
          generalize tx_V f st (en - st) = b
          have : a * 10000 * P = a * (P * 10000) := by rw [Nat.mul_assoc, Nat.mul_comm P]
          omega
        · have est : st = s := by omega
          subst est
          rw [lp_MO_reads_128]
          have hle : nI en - nI 4 ≤ nI st := by
            by_cases y : 4 ≤ en
            · rw [nI_sub y]; exact nI_le (by omega) (by omega)
            · exact Int32.le_trans (Int32.le_of_lt (nI_sbn (by omega) (by decide))) (nI_pos' (by omega))
          refine ⟨fun _ => hx _ (n + 1) f2 (by omega) g1 ?_, fun hc => absurd hle hc⟩
          rw [hv, g2]; omega) (en - st) st (by omega) (Nat.le_refl _)
      rw [Nat.sub_self] at key
      exact key
    refine ⟨fun hc => absurd hc (nI_ge hse (by omega)), fun _ => ⟨fun hc => ?_, fun hc => wr s (Nat.le_refl _) (by omega) ?_ (Or.inl rfl)⟩⟩
    · by_cases y : 4 ≤ en
      · have e1 : nI en - (4 : Int32) = nI (en - 4) := nI_sub y
        rw [e1] at hc ⊢
        have := (nI_leI (by omega) (by omega)).mp hc
        exact wr (en - 4) this (by omega) (by omega) (Or.inr (by omega))
      · have e1 : nI en - (4 : Int32) < 0 := nI_sbn (b := 4) (by omega) (by decide)
        exact absurd (Int32.lt_of_le_of_lt hc e1) (nI_pos (by omega))
    · by_cases y : 4 ≤ en
      · have e1 : nI en - (4 : Int32) = nI (en - 4) := nI_sub y
        rw [e1] at hc
        have : ¬ s ≤ en - 4 := fun w => hc (nI_le w (by omega))
        omega
      · omega
theorem tx_V0 {s : Nat} (h0 : f s ≠ 48) {k : Nat} (hk : 1 ≤ k) (H : ∀ i, s ≤ i → i < s + k → tx_D f i) : tx_V f s k ≠ 0 := by
  have := tx_Vge hk H h0
  have hp : 0 < (10 : Nat) ^ (k - 1) := Nat.pow_pos (by decide)
  omega
/-- reads() -/
theorem s_reads {h0 : ah_H} (Q : mo_Q h0 m A) {p : Nat} (T : tq_S h0 m p tl f) (n1 : p ≠ A.1) (n2 : p ≠ A.2.1) (n3 : p ≠ A.2.2) (L : mr_D D Z 12 lim_N) {K : Int32 → ah_H → Prop}
    (k0 : ¬ rd_G f tl → ∀ (D' Z' : Nat → Nat) (G' : Nat → Int32), mf_S (· = 17) D Z G D' Z' G' → K 0 (mh_S h0 A D' Z' G'))
    (k1 : rd_G f tl → ∀ (D' Z' : Nat → Nat) (G' : Nat → Int32), mf_S (· = 17) D Z G D' Z' G' → mz_D D' Z' G' 17 (sg_Z (decide (tx_s f = 1)) (tx_V f (tx_s f) (tl - tx_s f))) → K 1 (mh_S h0 A D' Z' G')) : w_MO_reads m (mh_S h0 A D Z G) K := by
  have T' : tq_S (mh_S h0 A D Z G) m p tl f := tq_mh T n1 n2 n3
  have ht := T.2.2.2.2.1
  have hs1 : tx_s f ≤ 1 := by unfold tx_s; split <;> omega
  have nog : ¬ tx_G f tl → K 0 (mh_S h0 A D Z G) := fun y => k0 (fun w => y w.1) D Z G mf_rf
  -- from the check of the digits on
  have e80 : ∀ mi : Int32, mi = nI (tx_s f) → 1 ≤ tl → tl ≠ tx_s f → ¬ (f (tx_s f) = 48 ∧ 1 < tl) → bk_MO_reads_80 K m mi (nI (tx_s f)) (mh_S h0 A D Z G) := by
    intro mi hmi c1 c2 c3
    refine s_rd_a (mh_Q Q).1 T' (fun hn => nog (fun w => hn w.2.2.2)) (fun hd => ⟨(mh_Q Q).1, fun v57 e57 => ⟨(tl - tx_s f) + 1, ?_⟩⟩) (tl - tx_s f) (tx_s f) (by omega) (Nat.le_refl _) (fun j a b => by omega)
    rw [T'.2.2.2.1] at e57
    rw [e57, show (0 : Int32) = nI 0 from rfl]
    refine s_rd_o Q T n1 n2 n3 (by omega) hd (fun D1 n f1 hn g1 gv => ⟨(mh_Q Q).1, A.2.2, (mh_Q Q).2.1.2.2, ?_⟩) (tl - tx_s f) 0 tl D (by omega) (by omega) (by omega) rf_rf (fun j hj => absurd hj (Nat.not_lt_zero _)) (by rw [Nat.pow_zero, Nat.mul_one]; rfl)
    obtain ⟨V, hV⟩ : ∃ V, V = tx_V f (tx_s f) (tl - tx_s f) := ⟨_, rfl⟩
    rw [← hV] at gv k1
    have fin : ∀ (sg : Int32), (sg_Z (decide (tx_s f = 1)) V ≠ 0 → sg = sI_n (sg_Z (decide (tx_s f = 1)) V)) → bk_MO_reads_222 K m (nI n) sg (17 : Int32) A.2.2 (mh_S h0 A D1 Z G) := by
      intro sg hsg
      refine ⟨(mh_Q Q).2.2.1.2.2, in_g (i := 17) Q (by decide), fun h125 e125 => ?_⟩
      rw [show (17 : Int32).toNatClampNeg = 17 from rfl, mw_g] at e125
      rw [e125]
      refine ⟨(mh_Q Q).1, s_trim (r := 17) Q (by decide) hn g1 (fun _ => ?_)⟩
      have M := tr_mr (Z := Z) (r := 17) hn g1
      rw [gv] at M
      generalize tr_n (ro_n D1 17) n = n2 at M ⊢
      have fm : mf_S (· = 17) D Z G D1 (dg_u Z 17 n2) (tm_g (upd G 17 sg) 17 n2) := mf_of f1 tu_ne
      have Mz : mz_D D1 (dg_u Z 17 n2) (tm_g (upd G 17 sg) 17 n2) 17 (sg_Z (decide (tx_s f = 1)) V) := fin_mz M sg_na.symm hsg
      have L1 := mf_mr fm (by decide) (by decide) L
      refine s_against (x := 17) (y := 12) Q (by decide) (by decide) M L1 (fun o ho _ => ⟨fun hp => ⟨Or.inl rfl, k0 (fun w => ?_) _ _ _ fm⟩, fun hp => ⟨Or.inr rfl, k1 ⟨⟨c1, c2, c3, hd⟩, ?_⟩ _ _ _ fm Mz⟩⟩)
      · have h1 := or_nn ho (Int32.not_lt.mpr hp)
        have h2 := w.2
        rw [← hV] at h2
        omega
      · have h1 := or_neg ho (Int32.not_le.mp hp)
        rw [← hV]; exact h1
    refine ⟨fun e0 => fin 1 ?_, fun e0 => fin (-1) ?_⟩
    · have hs0 : tx_s f = 0 := by
        rw [hmi] at e0
        exact (nI_eq (b := 0) (by omega) (by decide)).mp e0
      rw [decide_eq_false (by omega), sg_f]
      intro y
      exact (sI_p.mpr (by omega)).symm
    · have hs0 : tx_s f = 1 := by
        have : tx_s f ≠ 0 := fun y => e0 (by rw [hmi, y])
        omega
      rw [decide_eq_true hs0, sg_t]
      intro y
      exact (sI_m.mpr (by omega)).symm
  -- from the second byte on
  have e57 : ∀ mi : Int32, mi = nI (tx_s f) → 1 ≤ tl → tl ≠ tx_s f → (tx_s f = 1 → f 1 ≠ 48) → bk_MO_reads_57 K m mi (nI (tx_s f)) (mh_S h0 A D Z G) := by
    intro mi hmi c1 c2 c3
    have hlt : tx_s f < tl := by omega
    have hb : ah_bI (mh_S h0 A D Z G) p (nI (tx_s f)).toNatClampNeg = nI (f (tx_s f)) := by rw [nI_clamp (by omega)]; exact T'.2.2.2.2.2.2 _ hlt
    have hfl := T.2.2.2.2.2.1 (tx_s f)
    refine ⟨(mh_Q Q).1, p, T'.1, T'.2.1, by rw [T'.2.2.1]; exact vp_in_nI (by omega) (by decide), fun hn => e80 mi hmi c1 c2 (fun w => hn (by rw [hb, w.1]; rfl)), fun he => ?_⟩
    rw [hb] at he
    have hf48 : f (tx_s f) = 48 := (nI_eq (b := 48) (by omega) (by decide)).mp he
    have hs0 : tx_s f = 0 := by
      by_cases y : tx_s f = 1
      · rw [y] at hf48
        exact absurd hf48 (c3 y)
      · omega
    rw [T'.2.2.2.1, show nI (tx_s f) + (1 : Int32) = nI (tx_s f + 1) from nI_1 _]
    refine ⟨fun hl => e80 mi hmi c1 c2 (fun w => ?_), fun hl => nog (fun w => w.2.2.1 ⟨hf48, ?_⟩)⟩
    · have := (nI_leI (by omega) (by omega)).mp hl
      omega
    · have : ¬ tl ≤ tx_s f + 1 := fun y => hl (nI_le y (by omega))
      omega
  have e33 : ∀ mi : Int32, mi = nI (tx_s f) → 1 ≤ tl → bk_MO_reads_33 K m mi (nI (tx_s f)) (mh_S h0 A D Z G) := by
    intro mi hmi c1
    refine ⟨(mh_Q Q).1, fun he => nog (fun w => w.2.1 ?_), fun hne => ⟨fun h0' => e57 mi hmi c1 ?_ ?_, fun h0' => ⟨p, T'.1, T'.2.1, ?_, fun h48 => nog (fun w => ?_), fun h48 => e57 mi hmi c1 ?_ ?_⟩⟩⟩
    · rw [T'.2.2.2.1] at he
      exact (nI_eq (by omega) (by omega)).mp he
    · intro y; apply hne; rw [T'.2.2.2.1, y]
    · intro y
      rw [hmi, y] at h0'
      exact absurd h0' (by decide)
    · rw [T'.2.2.1]; exact vp_in_nI (n := 1) (by decide) (by decide)
    · have hs0 : tx_s f = 1 := by
        have : tx_s f ≠ 0 := fun y => h0' (by rw [hmi, y]; rfl)
        omega
      have ht1 : 1 < tl := by
        have := w.2.1
        omega
      have h48' : ah_bI (mh_S h0 A D Z G) p 1 = 48 := h48
      rw [T'.2.2.2.2.2.2 1 ht1] at h48'
      have hfl := T.2.2.2.2.2.1 1
      have := (nI_eq (b := 48) (by omega) (by decide)).mp h48'
      exact w.2.2.1 ⟨by rw [hs0]; exact this, ht1⟩
    · intro y; apply hne; rw [T'.2.2.2.1, y]
    · intro y hy
      have hs0 : tx_s f = 1 := y
      have ht1 : 1 < tl := by
        have : tl ≠ tx_s f := fun w => hne (by rw [T'.2.2.2.1, w])
        omega
      apply h48
      show ah_bI (mh_S h0 A D Z G) p 1 = 48
      rw [T'.2.2.2.2.2.2 1 ht1, hy]; rfl
  refine ⟨(mh_Q Q).1, fun hl => ?_, fun hl => ?_⟩
  · rw [T'.2.2.2.1] at hl
    have ht0 : tl = 0 := by
      rcases Nat.eq_zero_or_pos tl with y | y
      · exact y
      · exact absurd hl (nI_nle y (by omega))
    refine ⟨fun _ => ⟨(mh_Q Q).1, fun _ => nog (fun w => by have := w.1; omega), fun hc => absurd (by rw [T'.2.2.2.1, ht0]; rfl) hc⟩, fun hc => absurd rfl hc⟩
  · rw [T'.2.2.2.1] at hl
    have ht1 : 1 ≤ tl := by
      rcases Nat.eq_zero_or_pos tl with y | y
      · rw [y] at hl; exact absurd (by decide) hl
      · exact y
    have hb : ah_bI (mh_S h0 A D Z G) p 0 = nI (f 0) := T'.2.2.2.2.2.2 0 (by omega)
    have hfl := T.2.2.2.2.2.1 0
    refine ⟨p, T'.1, T'.2.1, by rw [T'.2.2.1]; exact vp_in_nI (n := 0) (by decide) (by decide), fun hn => ?_, fun he => ?_⟩
    · have hs0 : tx_s f = 0 := by
        unfold tx_s
        rw [if_neg]
        intro y
        apply hn
        show ah_bI (mh_S h0 A D Z G) p 0 = 45
        rw [hb, y]; rfl
      have := e33 0 (by rw [hs0]; rfl) ht1
      rw [hs0] at this
      exact ⟨fun _ => this, fun hc => absurd rfl hc⟩
    · have he' : ah_bI (mh_S h0 A D Z G) p 0 = 45 := he
      rw [hb] at he'
      have hs0 : tx_s f = 1 := by
        unfold tx_s
        rw [if_pos ((nI_eq (b := 45) (by omega) (by decide)).mp he')]
      have := e33 1 (by rw [hs0]; rfl) ht1
      rw [hs0] at this
      exact ⟨fun hc => absurd hc (by decide), fun _ => this⟩
/-- read(r) -/
theorem q_read (S : mo_S h m A B z tl f wl g) (hf : ∀ k, f k < 256) {r : Int32} {K : Int32 → ah_H → Prop} (h1 : ¬ rk_n r < 12 → ∀ h', mc_S h m A B z tl f wl g 1 h' → K 0 h') (k0 : rk_n r < 12 → ¬ rd_G f tl → ∀ h', mc_S h m A B z 0 f wl g 0 h' → K 0 h') (k1 : rk_n r < 12 → rd_G f tl → ∀ h', mc_S h m A B (zu_n z (rk_n r) (sg_Z (decide (tx_s f = 1)) (tx_V f (tx_s f) (tl - tx_s f)))) 0 f wl g 0 h' → K 1 h') : w_MO_read m r h K := by
  have Q := S.1
  have T := S.2.1
  have Q0 : mo_Q (ah_sI h 4 m 0) m A := sI_Q Q
  obtain ⟨D, Z, G, e, R⟩ := S.2.2.1
  refine s_isNone (fun hr _ => ⟨Q.1, s_fails0 Q.1 (fun _ => ⟨fun _ => ?_, fun hc => absurd rfl hc⟩)⟩) (fun hr _ => ⟨Q.1, s_fails1 Q.1 (fun _ => ⟨fun hc => absurd hc (by decide), fun _ => h1 hr _ (mc_c S 1)⟩)⟩)
  have Tq : tq_S (ah_sI h 4 m 0) m B.1 tl f := by
    unfold tq_S
    rw [sI_R, sI_T, sI_N, sI_I, sI_bI, u2_k _ _ (by decide)]
    exact ⟨T.1.1, T.2.1.1, T.2.2.1.1, S.2.2.2.1.1, S.2.2.2.1.2.1, hf, S.2.2.2.1.2.2⟩
  -- the state behind it, with an empty tape
  have last : ∀ (D' Z' : Nat → Nat) (G' : Nat → Int32) (z' : Nat → Int), rg_D D' Z' G' z' → mc_S h m A B z' 0 f wl g 0 (mh_S (ah_sI (ah_sI h 4 m 0) 5 m 0) A D' Z' G') := by
    intro D' Z' G' z' R'
    obtain ⟨F1, S1, I1⟩ := mo_fin S (c := 0) R'
    have e1 : mh_S (ah_sI (ah_sI h 4 m 0) 5 m 0) A D' Z' G' = ah_sI (mh_S (ah_sI h 4 m 0) A D' Z' G') 5 m 0 := mh_sI.symm
    rw [e1]
    have eI : ah_I (ah_sI (mh_S (ah_sI h 4 m 0) A D' Z' G') 5 m 0) = ah_u2 (ah_I (mh_S (ah_sI h 4 m 0) A D' Z' G')) 5 m 0 := sI_I
    refine ⟨⟨by rw [sI_T]; exact F1.1, by rw [sI_N]; exact F1.2.1, by rw [sI_L]; exact F1.2.2.1, by rw [sI_R]; exact F1.2.2.2.1, by rw [sI_bL]; exact F1.2.2.2.2.1, by rw [sI_bR]; exact F1.2.2.2.2.2.1, fun k a ha => by rw [eI, u2_a _ _ ha]; exact F1.2.2.2.2.2.2.1 k a ha, fun a ha => by rw [sI_bI]; exact F1.2.2.2.2.2.2.2 a ha⟩, mo_new S1 sI_T sI_N (fun k => by rw [sI_R]) (by rw [sI_bI]) (by rw [sI_bI]) (by rw [sI_bI]) ⟨by rw [eI]; exact u2_s _ _ _ _, by decide, fun k hk => absurd hk (Nat.not_lt_zero _)⟩ ⟨by rw [eI, u2_k _ _ (by decide)]; exact S1.2.2.2.2.1, S1.2.2.2.2.2.1, fun i hi => by rw [sI_bI]; exact S1.2.2.2.2.2.2 i hi⟩, by rw [eI, u2_k _ _ (by decide)]; exact I1⟩
  rw [mo_s0 e]
  refine s_reads Q0 Tq T.2.2.2.1.1 T.2.2.2.1.2.1 T.2.2.2.1.2.2 R.2 (fun hn D1 Z1 G1 f1 _ h16 e16 => ?_) (fun hg D1 Z1 G1 f1 M1 _ h16 e16 => ?_)
  · rw [mh_sI] at e16
    rw [e16]
    exact ⟨fun _ => ⟨Or.inl rfl, k0 hr hn _ (last D1 Z1 G1 z (rg_k R f1 (fun x hx hy => by omega)))⟩, fun hc => absurd rfl hc⟩
  · rw [mh_sI] at e16
    rw [e16, (rk_ok hr).2.2]
    refine ⟨fun hc => absurd hc (by decide), fun _ => z_copyRow (fr := 17) (sI_Q Q0) (by omega) (by decide) M1.1 (fun D2 Z2 G2 f2 M2 g2 _ => ⟨Or.inr rfl, k1 hr hg _ (last D2 Z2 G2 _ ?_)⟩)⟩
    exact rg_u R (mf_tr (mf_mo f1 (fun x hx => Or.inr (by omega))) (mf_mo f2 (fun x hx => Or.inl hx)) : mf_S (fun x => x = rk_n r ∨ 13 ≤ x) D Z G D2 Z2 G2) (fun x hx hy hz => by rcases hz with y | y; exact hy y; omega) hr ⟨M2, g2.trans M1.2⟩ (by rw [sg_na]; exact hg.2)
end MP5
