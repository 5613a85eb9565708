section TX2
variable {h : ah_H} {p w q : Nat}
/-- the Whole w anew, and the row p -/
def tb_S (h : ah_H) (w q n : Nat) (d : Nat → Nat) (p : Nat) (G : Nat → Int32) : ah_H := ah_cI (wd_S h w q n false d) p G
theorem cI_T {G : Nat → Int32} : ah_T (ah_cI h p G) = ah_T h := by unfold ah_cI ah_T; rfl
theorem cI_N {G : Nat → Int32} : ah_N (ah_cI h p G) = ah_N h := by unfold ah_cI ah_N; rfl
theorem cI_I {G : Nat → Int32} : ah_I (ah_cI h p G) = ah_I h := by unfold ah_cI ah_I; rfl
theorem cI_L {G : Nat → Int32} : ah_L (ah_cI h p G) = ah_L h := by unfold ah_cI ah_L; rfl
theorem cI_R {G : Nat → Int32} : ah_R (ah_cI h p G) = ah_R h := by unfold ah_cI ah_R; rfl
theorem cI_bI {G : Nat → Int32} : ah_bI (ah_cI h p G) = va_up (ah_bI h) p G := by unfold ah_cI ah_bI; rfl
theorem cI_bL {G : Nat → Int32} : ah_bL (ah_cI h p G) = ah_bL h := by unfold ah_cI ah_bL; rfl
theorem cI_bR {G : Nat → Int32} : ah_bR (ah_cI h p G) = ah_bR h := by unfold ah_cI ah_bR; rfl
theorem cI_wh {n : Nat} {b : Bool} {d : Nat → Nat} {G : Nat → Int32} (H : wh_S h w q n b d) : wh_S (ah_cI h p G) w q n b d := by
  unfold wh_S wq_S at *
  rw [cI_T, cI_N, cI_R, cI_I, cI_bL]; exact H
theorem tb_wh {n : Nat} {d : Nat → Nat} {G : Nat → Int32} (H : wq_S h w q) : wh_S (tb_S h w q n d p G) w q n false d := cI_wh (wh_wd H)
theorem tb_T {n : Nat} {d : Nat → Nat} {G : Nat → Int32} : ah_T (tb_S h w q n d p G) = ah_T h := by unfold tb_S; rw [cI_T]; exact ws_T
theorem tb_N {n : Nat} {d : Nat → Nat} {G : Nat → Int32} : ah_N (tb_S h w q n d p G) = ah_N h := by unfold tb_S; rw [cI_N]; exact ws_N
theorem tb_b {n : Nat} {d : Nat → Nat} {G : Nat → Int32} : ah_bI (tb_S h w q n d p G) p = G := by unfold tb_S; rw [cI_bI]; exact va_up_self _ _ _
theorem cI_wd {n : Nat} {b : Bool} {d : Nat → Nat} {G : Nat → Int32} : wd_S (ah_cI h p G) w q n b d = ah_cI (wd_S h w q n b d) p G := by
  simp only [wd_S, ws_S, ah_sI, ah_cL, ah_cI, ah_T, ah_N, ah_I, ah_L, ah_R, ah_bI, ah_bL, ah_bR]
  rfl
theorem tb_wd {n n' : Nat} {d d' : Nat → Nat} {G : Nat → Int32} : wd_S (tb_S h w q n d p G) w q n' false d' = tb_S h w q n' d' p G := by
  unfold tb_S
  rw [cI_wd, wd_wd]
theorem cI_cI {G G' : Nat → Int32} : ah_cI (ah_cI h p G) p G' = ah_cI h p G' := by
  apply ah_ext
  · rw [cI_T, cI_T, cI_T]
  · rw [cI_N, cI_N, cI_N]
  · rw [cI_I, cI_I, cI_I]
  · rw [cI_L, cI_L, cI_L]
  · rw [cI_R, cI_R, cI_R]
  · rw [cI_bI, cI_bI, cI_bI, bx_uu]
  · rw [cI_bL, cI_bL, cI_bL]
  · rw [cI_bR, cI_bR, cI_bR]
theorem cI_id : ah_cI h p (ah_bI h p) = h := by
  apply ah_ext
  · exact cI_T
  · exact cI_N
  · exact cI_I
  · exact cI_L
  · exact cI_R
  · rw [cI_bI, up_id]
  · exact cI_bL
  · exact cI_bR
theorem tb_cI {n : Nat} {d : Nat → Nat} {G G' : Nat → Int32} : ah_cI (tb_S h w q n d p G) p G' = tb_S h w q n d p G' := cI_cI
theorem s_layByte {x e : Nat} (hT : ah_T h p = 101) (hN : ah_N h p = 2468) (hx : x < 128) (he : 1 ≤ e) (he2 : e ≤ 2468) {K : Int32 → ah_H → Prop} (hK : K (nI (e - 1)) (ah_cI h p (upd (ah_bI h p) (e - 1) (nI x)))) : w_TX_layByte (nI x) p (nI e) h K := by
  refine ⟨fun hl => absurd hl (nI_nlt (b := 1) he (by omega)), fun _ => ⟨hT, fun _ v ev => ⟨?_, fun h11 e11 => ?_⟩, fun hc => absurd ?_ hc⟩⟩
  · rw [nI_m1 he, hN]; exact vp_in_nI (by omega) (by decide)
  · have e1 : (nI x).toInt8.toInt32 = nI x := by_d x hx
    rw [e1] at ev
    rw [ev, nI_m1 he, nI_clamp (by omega), vp_nar_byte, e1] at e11
    rw [e11, nI_m1 he]; exact hK
  · rw [hN]; exact nI_le he2 (by decide)
theorem lb_k {c : Nat} (hc : c < 2 ^ 63) : ((48 : Int64) + (lN c - lN c / (10 : Int64) * (10 : Int64))).toInt32 = nI (48 + c % 10) := by
  show (lN 48 + (lN c - lN c / lN 10 * lN 10)).toInt32 = _
  rw [pk_lRem hc (by decide) (by decide), lN_add, lN_i]
theorem dd_c {v i : Nat} (hi : i < 9) : v % 1000000000 / 10 ^ i % 10 = v / 10 ^ i % 10 := by
  have h1 : (1000000000 : Nat) = 10 ^ i * (10 * 10 ^ (8 - i)) := by
    rw [← Nat.mul_assoc, ← Nat.pow_succ, ← Nat.pow_add, show i + 1 + (8 - i) = 9 by omega]
  have h2 := Nat.div_add_mod v 1000000000
  have h3 : v / 10 ^ i = 10 * (10 ^ (8 - i) * (v / 1000000000)) + v % 1000000000 / 10 ^ i := by
    have h4 : v = 10 ^ i * (10 * (10 ^ (8 - i) * (v / 1000000000))) + v % 1000000000 := by
      have h5 : 10 ^ i * (10 * (10 ^ (8 - i) * (v / 1000000000))) = 1000000000 * (v / 1000000000) := by
        calc 10 ^ i * (10 * (10 ^ (8 - i) * (v / 1000000000))) = 10 ^ i * (10 * 10 ^ (8 - i)) * (v / 1000000000) := by ac_rfl
          _ = _ := by rw [← h1]
      rw [h5]; exact h2.symm
    have h6 := Nat.mul_add_div (m := 10 ^ i) (Nat.pow_pos (by decide)) (10 * (10 ^ (8 - i) * (v / 1000000000))) (v % 1000000000)
    rw [← h4] at h6
    exact h6
  rw [h3]; omega
theorem dd_d {u L i : Nat} : u / 10 ^ (L + i) = u / 10 ^ L / 10 ^ i := by rw [Nat.pow_add, Nat.div_div_eq_div_mul]
theorem dd_n {u k : Nat} (h : u / 10 ^ k ≠ 0) : 10 ^ k ≤ u := by
  apply Nat.le_of_not_lt
  intro z
  exact h (Nat.div_eq_of_lt z)
theorem dd_z {u k : Nat} (h : u / 10 ^ k = 0) : u < 10 ^ k := by
  rcases (Nat.div_eq_zero_iff).mp h with z | z
  · exact absurd z (Nat.ne_of_gt (Nat.pow_pos (by decide)))
  · exact z
theorem dd_l {u k : Nat} (hu : u < 10 ^ 2467) (h : 10 ^ k ≤ u) : k < 2467 := by
  apply Nat.lt_of_not_le
  intro z
  exact absurd (Nat.lt_of_le_of_lt (Nat.le_trans (Nat.pow_le_pow_right (by decide) z) h) hu) (Nat.lt_irrefl _)
def dd_S (u L : Nat) (G : Nat → Int32) : Prop := ∀ j, j < L → G (2467 - j) = nI (48 + u / 10 ^ j % 10)
theorem dd_s {u L : Nat} {G : Nat → Int32} (hL : L < 2468) (H : dd_S u L G) : dd_S u (L + 1) (upd G (2467 - L) (nI (48 + u / 10 ^ L % 10))) := by
  intro j hj
  by_cases z : j = L
  · rw [z]; exact pk_us
  · rw [pk_un (by omega)]; exact H j (by omega)
theorem s_lc_a (hT : ah_T h p = 101) (hN : ah_N h p = 2468) (Wq : wq_S h w q) {u v L n : Nat} {d : Nat → Nat} (C : cn_D d n) (hd : dg_v 4294967296 d n = v / 1000000000) (hv : u / 10 ^ L = v) (hv0 : v ≠ 0) (hu : u < 10 ^ 2467) {xt : Int32 → ah_H → Prop} {K : Int32 → ah_H → Prop}
    (hx : ∀ (i : Nat) (G : Nat → Int32), i ≤ 9 → 1 ≤ i → (v / 10 ^ i ≠ 0 → i = 9) → 10 ^ (L + i - 1) ≤ u → dd_S u (L + i) G → xt (nI (2468 - (L + i))) (tb_S h w q n d p G)) :
    ∀ (k i : Nat) (G : Nat → Int32), 9 = i + k → dd_S u (L + i) G → (i ≠ 0 → 10 ^ (L + i - 1) ≤ u) → lp_TX_layChunk_11 xt K (k + 1) w p (nI (2468 - (L + i))) (lN (v % 1000000000 / 10 ^ i)) (nI i) (tb_S h w q n d p G) := by
  intro k
  induction k with
  | zero =>
    intro i G hi H1 H2
    rw [lp_TX_layChunk_11]
    refine ⟨fun _ => hx i G (by omega) (by omega) (fun _ => by omega) (H2 (by omega)) H1, fun hc => absurd (nI_le (a := 9) (by omega) (by omega)) hc⟩
  | succ k ih =>
    intro i G hi H1 H2
    have hm : v % 1000000000 < 1000000000 := Nat.mod_lt _ (by decide)
    have hcl : v % 1000000000 / 10 ^ i < 1000000000 := Nat.lt_of_le_of_lt (Nat.div_le_self _ _) hm
    have body : v / 10 ^ i ≠ 0 → bk_TX_layChunk_32 (lp_TX_layChunk_11 xt K (k + 1)) K w p (nI (2468 - (L + i))) (lN (v % 1000000000 / 10 ^ i)) (nI i) (tb_S h w q n d p G) := by
      intro hne
      have h1 : 10 ^ (L + i) ≤ u := dd_n (by rw [dd_d, hv]; exact hne)
      have h2 := dd_l hu h1
      unfold bk_TX_layChunk_32
      rw [lb_k (Nat.lt_trans hcl (by decide))]
      refine s_layByte (h := tb_S h w q n d p G) (x := 48 + v % 1000000000 / 10 ^ i % 10) (by rw [tb_T]; exact hT) (by rw [tb_N]; exact hN) (by omega) (by omega) (by omega) (fun _ v27 e27 v28 e28 => ?_)
      rw [e27, e28, nI_1, tb_cI, tb_b]
      show lp_TX_layChunk_11 xt K (k + 1) w p _ (lN _ / lN 10) _ _
      rw [pk_lDiv (Nat.lt_trans hcl (by decide)) (by decide) (by decide), Nat.div_div_eq_div_mul, ← Nat.pow_succ, show 2468 - (L + i) - 1 = 2468 - (L + (i + 1)) by omega]
      refine ih (i + 1) _ (by omega) ?_ (fun _ => h1)
      have h3 := dd_s (by omega) H1
      rw [dd_d, hv, ← dd_c (by omega), show 2467 - (L + i) = 2468 - (L + (i + 1)) by omega] at h3
      exact h3
    rw [lp_TX_layChunk_11]
    refine ⟨fun hc => absurd hc (nI_ge (b := 9) (by omega) (by decide)), fun _ => ⟨by rw [tb_T]; exact Wq.1, fun hp => body ?_, fun hp => ⟨fun hc => ?_, fun hc => body ?_⟩⟩⟩
    · have hn0 : n ≠ 0 := by
        intro z
        rw [(tb_wh (p := p) (G := G) (n := n) (d := d) Wq).2.1, z] at hp
        exact absurd hp (by decide)
      have h1 : v / 1000000000 ≠ 0 := fun z => hn0 ((cn_0 C).mp (hd.trans z))
      intro z
      have h2 : v < 10 ^ i := dd_z z
      have h3 : (10 : Nat) ^ i ≤ 10 ^ 9 := Nat.pow_le_pow_right (by decide) (by omega)
      exact h1 (Nat.div_eq_of_lt (Nat.lt_of_lt_of_le h2 h3))
    · have hn0 : n = 0 := by
        rcases Nat.eq_zero_or_pos n with z | z
        · exact z
        · rw [(tb_wh (p := p) (G := G) (n := n) (d := d) Wq).2.1] at hp
          exact absurd (nI_lt (a := 0) z (by have := C.2.2.2; omega)) hp
      have h1 : v / 1000000000 = 0 := hd.symm.trans ((cn_0 C).mpr hn0)
      have h2 : v % 1000000000 = v := Nat.mod_eq_of_lt (by omega)
      have h3 : v % 1000000000 / 10 ^ i = 0 := Nat.le_zero.mp ((pk_lLE (b := 0) (Nat.lt_trans hcl (by decide)) (by decide)).mp hc)
      rw [h2] at h3
      have hi0 : i ≠ 0 := by
        intro z
        rw [z, Nat.pow_zero, Nat.div_one] at h3
        exact hv0 h3
      exact hx i G (by omega) (by omega) (fun z => absurd h3 z) (H2 hi0) H1
    · intro z
      apply hc
      have : v % 1000000000 / 10 ^ i = 0 := Nat.le_zero.mp (Nat.le_trans (Nat.div_le_div_right (Nat.mod_le _ _)) (Nat.le_of_eq z))
      rw [this]
      decide
theorem s_layChunk (hT : ah_T h p = 101) (hN : ah_N h p = 2468) (Wq : wq_S h w q) {u L n : Nat} {d : Nat → Nat} {G : Nat → Int32} (C : cn_D d n) (hv : dg_v 4294967296 d n = u / 10 ^ L) (hn0 : n ≠ 0) (hu : u < 10 ^ 2467) (H : dd_S u L G) {K : Int32 → ah_H → Prop}
    (hK : ∀ (n' : Nat) (d' : Nat → Nat) (L' : Nat) (G' : Nat → Int32), cn_D d' n' → dg_v 4294967296 d' n' = u / 10 ^ (L + 9) → (n' ≠ 0 → L' = L + 9) → (n' = 0 → u < 10 ^ L') → 10 ^ (L' - 1) ≤ u → 1 ≤ L' → dd_S u L' G' → K (nI (2468 - L')) (tb_S h w q n' d' p G')) : w_TX_layChunk w p (nI (2468 - L)) (tb_S h w q n d p G) K := by
  refine ⟨by rw [tb_T]; exact Wq.1, s_takeChunk (tb_wh Wq) C (fun n' d' C' v' _ => ⟨9 + 1, ?_⟩)⟩
  rw [tb_wd, hv]
  have hv0 : u / 10 ^ L ≠ 0 := fun z => hn0 ((cn_0 C).mp (hv.trans z))
  have h9 : u / 10 ^ (L + 9) = u / 10 ^ L / 1000000000 := dd_d
  have key := s_lc_a (h := h) (p := p) (w := w) (q := q) (K := K) hT hN Wq C' (v := u / 10 ^ L) (by rw [v', hv]) rfl hv0 hu (xt := fun (x30 : Int32) h31 => bk_TX_layChunk_63 K x30 h31) (fun i G' h1 h2 h3 h4 h5 => by
    refine hK n' d' (L + i) G' C' ?_ ?_ ?_ h4 (by omega) h5
    · rw [v', hv, h9]
    · intro z
      have : i = 9 := h3 (fun y => z ((cn_0 C').mp (by
        rw [v', hv]
        apply Nat.div_eq_of_lt
        exact Nat.lt_of_lt_of_le (dd_z y) (show (10 : Nat) ^ i ≤ 10 ^ 9 from Nat.pow_le_pow_right (by decide) h1))))
      rw [this]
    · intro z
      apply dd_z
      rw [dd_d]
      have h6 := (cn_0 C').mpr z
      rw [v', hv] at h6
      by_cases y : u / 10 ^ L / 10 ^ i = 0
      · exact y
      · rw [h3 y]; exact h6) 9 0 G rfl H (fun z => absurd rfl z)
  rw [Nat.pow_zero, Nat.div_one] at key
  exact key
theorem s_to_a (hT : ah_T h p = 101) (hN : ah_N h p = 2468) (Wq : wq_S h w q) {u : Nat} (hu : u < 10 ^ 2467) {bI : Int32} {xt : Nat → Int32 → Int32 → ah_H → Prop} {K : Int32 → ah_H → Prop}
    (hx : ∀ (n : Nat) (d : Nat → Nat) (L : Nat) (G : Nat → Int32), cn_D d n → u < 10 ^ L → (L = 0 ∨ 10 ^ (L - 1) ≤ u) → dd_S u L G → xt p bI (nI (2468 - L)) (tb_S h w q n d p G)) :
    ∀ (k t n : Nat) (d : Nat → Nat) (L : Nat) (G : Nat → Int32), t + k = 275 → cn_D d n → dg_v 4294967296 d n = u / 10 ^ (9 * t) → (n ≠ 0 → L = 9 * t) → (n = 0 → u < 10 ^ L) → (L = 0 ∨ 10 ^ (L - 1) ≤ u) → dd_S u L G → lp_TX_textOf_16 xt K (k + 1) w p bI (nI (2468 - L)) (nI (9 * t)) (tb_S h w q n d p G) := by
  intro k
  induction k with
  | zero =>
    intro t n d L G ht C hv h1 h2 h3 H
    have hn0 : n = 0 := by
      apply (cn_0 C).mp
      rw [hv]
      exact Nat.div_eq_of_lt (Nat.lt_of_lt_of_le hu (Nat.pow_le_pow_right (by decide) (by omega)))
    rw [lp_TX_textOf_16]
    refine ⟨fun _ => hx n d L G C (h2 hn0) h3 H, fun hc => absurd (nI_le (a := 2467) (by omega) (by omega)) hc⟩
  | succ k ih =>
    intro t n d L G ht C hv h1 h2 h3 H
    rw [lp_TX_textOf_16]
    refine ⟨fun hc => ?_, fun hc => ⟨by rw [tb_T]; exact Wq.1, fun hz => ?_, fun hz => ?_⟩⟩
    · have h4 := (nI_leI (a := 2467) (b := 9 * t) (by decide) (by omega)).mp hc
      have hn0 : n = 0 := by
        apply (cn_0 C).mp
        rw [hv]
        exact Nat.div_eq_of_lt (Nat.lt_of_lt_of_le hu (Nat.pow_le_pow_right (by decide) h4))
      exact hx n d L G C (h2 hn0) h3 H
    · have hn0 : n = 0 := by
        rw [(tb_wh (p := p) (G := G) (n := n) (d := d) Wq).2.1] at hz
        rcases Nat.eq_zero_or_pos n with z | z
        · exact z
        · exact absurd hz (nI_nle z (by have := C.2.2.2; omega))
      exact hx n d L G C (h2 hn0) h3 H
    · have hn0 : n ≠ 0 := by
        intro z
        apply hz
        rw [(tb_wh (p := p) (G := G) (n := n) (d := d) Wq).2.1, z]
        decide
      have hL := h1 hn0
      subst hL
      refine s_layChunk hT hN Wq C hv hn0 hu H (fun n' d' L' G' C' v' g1 g2 g3 g4 g5 _ v23 e23 => ?_)
      rw [e23]
      show lp_TX_textOf_16 xt K (k + 1) w p bI _ (nI (9 * t) + nI 9) _
      rw [nI_add]
      exact ih (t + 1) n' d' L' G' (by omega) C' v' g1 g2 (Or.inr g3) g5
/-- the text of a number -/
def tw_S (b : Bool) (u len : Nat) (g : Nat → Int32) : Prop := ∃ n, len = n + (if b then 1 else 0) ∧ u < 10 ^ n ∧ 1 ≤ n ∧ (n = 1 ∨ 10 ^ (n - 1) ≤ u) ∧ (∀ j, j < n → g (len - 1 - j) = nI (48 + u / 10 ^ j % 10)) ∧ (b = true → g 0 = 45)
theorem s_to_70 (hT : ah_T h p = 101) (hN : ah_N h p = 2468) {len : Nat} (hl : len ≤ 2468) (hb : ∀ j, j < len → ∃ x, x < 128 ∧ ah_bI h p (2467 - j) = nI x) {K : Int32 → ah_H → Prop} (hK : K (nI len) (ah_cI h p (va_cpy (ah_bI h p) (ah_bI h p) (2468 - len) 0 len))) : bk_TX_textOf_70 K p (nI (2468 - len)) h := by
  refine ⟨hT, fun v ev => ?_⟩
  have ev' : v = nI len := by
    rw [ev, hN, nI_sub (by omega)]
    congr 1
    omega
  rw [ev', nI_clamp (by omega), nI_clamp (by omega)]
  refine ⟨nI_pos (by omega), by decide, nI_pos (by omega), by rw [hN]; omega, by rw [hN]; show 0 + len ≤ 2468; omega, fun i hi => ?_, fun h50 e50 => ?_⟩
  · obtain ⟨x, hx, e⟩ := hb (len - 1 - i) (by omega)
    rw [show 2468 - len + i = 2467 - (len - 1 - i) by omega, e]
    exact by_d x hx
  · rw [e50]; exact hK
theorem s_to_58 (hT : ah_T h p = 101) (hN : ah_N h p = 2468) (Wq : wq_S h w q) {u n L : Nat} {d : Nat → Nat} {G : Nat → Int32} {b : Bool} (h1 : u < 10 ^ L) (h2 : 1 ≤ L) (hL : L ≤ 2467) (h3 : L = 1 ∨ 10 ^ (L - 1) ≤ u) (H : dd_S u L G) {K : Int32 → ah_H → Prop}
    (hK : ∀ (G' : Nat → Int32) (len : Nat), len ≤ 2468 → tw_S b u len G' → K (nI len) (tb_S h w q n d p G')) : bk_TX_textOf_58 K p (bi_n b) (nI (2468 - L)) (tb_S h w q n d p G) := by
  have hby : ∀ j, j < L → ∃ x, x < 128 ∧ G (2467 - j) = nI x := fun j hj => ⟨_, by omega, H j hj⟩
  refine ⟨fun hz => ?_, fun hz => ?_⟩
  · have hb : b = false := bi_0.mp hz
    subst hb
    refine s_to_70 (h := tb_S h w q n d p G) (by rw [tb_T]; exact hT) (by rw [tb_N]; exact hN) (by omega) (by rw [tb_b]; exact hby) ?_
    rw [tb_cI, tb_b]
    refine hK _ L (by omega) ⟨L, rfl, h1, h2, h3, fun j hj => ?_, fun z => Bool.noConfusion z⟩
    rw [pk_cpy_in (Nat.zero_le _) (by omega), ← H j hj]
    congr 1
    omega
  · have hb : b = true := by
      cases b
      · exact absurd rfl hz
      · rfl
    subst hb
    refine s_layByte (h := tb_S h w q n d p G) (x := 45) (by rw [tb_T]; exact hT) (by rw [tb_N]; exact hN) (by decide) (by omega) (by omega) (fun _ => ?_)
    rw [tb_cI, tb_b, show 2468 - L - 1 = 2468 - (L + 1) by omega]
    refine s_to_70 (h := tb_S h w q n d p _) (by rw [tb_T]; exact hT) (by rw [tb_N]; exact hN) (by omega) ?_ ?_
    · rw [tb_b]
      intro j hj
      by_cases z : j = L
      · exact ⟨45, by decide, by rw [z, show 2468 - (L + 1) = 2467 - L by omega]; exact pk_us⟩
      · rw [pk_un (by omega)]; exact hby j (by omega)
    · rw [tb_cI, tb_b]
      refine hK _ (L + 1) (by omega) ⟨L, rfl, h1, h2, h3, fun j hj => ?_, fun _ => ?_⟩
      · rw [pk_cpy_in (Nat.zero_le _) (by omega), pk_un (by omega), ← H j hj]
        congr 1
        omega
      · rw [pk_cpy_in (Nat.zero_le _) (by omega)]
        exact pk_us
theorem tb_id {n : Nat} {d : Nat → Nat} : wd_S h w q n false d = tb_S h w q n d p (ah_bI h p) := (cI_id (h := wd_S h w q n false d) (p := p)).symm
/-- textOf(from, row) -/
theorem s_textOf (hT : ah_T h p = 101) (hN : ah_N h p = 2468) {n : Nat} {b : Bool} {d : Nat → Nat} (W : wh_S h w q n b d) (C : cn_D d n) (hu : dg_v 4294967296 d n < 10 ^ 2467) {K : Int32 → ah_H → Prop}
    (hK : ∀ (n' : Nat) (d' : Nat → Nat) (G' : Nat → Int32) (len : Nat), cn_D d' n' → len ≤ 2468 → tw_S b (dg_v 4294967296 d n) len G' → K (nI len) (tb_S h w q n' d' p G')) : w_TX_textOf w p h K := by
  have Wq := W.1
  refine ⟨Wq.1, fun v4 e4 => s_markSign W C.2.2.2 false (fun _ => ⟨hT, fun v9 e9 => ⟨275 + 1, ?_⟩⟩)⟩
  rw [Bool.false_and, tb_id (p := p), e4, W.2.2.1, e9, show ah_N (wd_S h w q n (false && decide (0 < n)) d) p = 2468 - 0 from hN]
  refine s_to_a hT hN Wq hu (fun n' d' L G C' h1 h2 H => ?_) 275 0 n d 0 _ rfl C (by rw [Nat.mul_zero, Nat.pow_zero, Nat.div_one]) (fun _ => rfl) (fun z => ?_) (Or.inl rfl) (fun j hj => absurd hj (Nat.not_lt_zero _))
  · have hL : L ≤ 2467 := by
      rcases h2 with z | z
      · omega
      · have := dd_l hu z
        omega
    refine ⟨by rw [tb_T]; exact hT, fun hne => ?_, fun he => ?_⟩
    · have hL0 : 1 ≤ L := by
        rcases Nat.eq_zero_or_pos L with z | z
        · exact absurd (by rw [z, show ah_N (tb_S h w q n' d' p G) p = 2468 by rw [tb_N]; exact hN]) hne
        · exact z
      exact s_to_58 hT hN Wq h1 hL0 hL (by rcases h2 with z | z; omega; exact Or.inr z) H (fun G' len hl ht => hK n' d' G' len C' hl ht)
    · have hL0 : L = 0 := by
        rw [show ah_N (tb_S h w q n' d' p G) p = 2468 by rw [tb_N]; exact hN] at he
        have := (nI_eq (a := 2468 - L) (b := 2468) (by omega) (by decide)).mp he
        omega
      subst hL0
      rw [Nat.pow_zero] at h1
      have hu0 : dg_v 4294967296 d n = 0 := by omega
      refine s_layByte (h := tb_S h w q n' d' p G) (x := 48) (by rw [tb_T]; exact hT) (by rw [tb_N]; exact hN) (by decide) (by decide) (by decide) (fun _ => ?_)
      rw [tb_cI, tb_b]
      refine s_to_58 (L := 1) hT hN Wq (by rw [hu0]; decide) (by decide) (by decide) (Or.inl rfl) ?_ (fun G' len hl ht => hK n' d' G' len C' hl ht)
      have h3 := dd_s (u := dg_v 4294967296 d n) (L := 0) (by decide) H
      rw [hu0] at h3 ⊢
      exact h3
  · rw [(cn_0 C).mpr z]; decide
theorem tw_u {b : Bool} {u l1 l2 : Nat} {g1 g2 : Nat → Int32} (A : tw_S b u l1 g1) (B : tw_S b u l2 g2) : l1 = l2 ∧ ∀ i, i < l1 → g1 i = g2 i := by
  obtain ⟨n, a1, a2, a3, a4, a5, a6⟩ := A
  obtain ⟨m, b1, b2, b3, b4, b5, b6⟩ := B
  have key : ∀ {n m : Nat}, 1 ≤ m → (n = 1 ∨ 10 ^ (n - 1) ≤ u) → u < 10 ^ m → n ≤ m := by
    intro n m h0 h1 h2
    rcases h1 with z | z
    · omega
    · have := (Nat.pow_lt_pow_iff_right (a := 10) (by decide)).mp (Nat.lt_of_le_of_lt z h2)
      omega
  have e : n = m := Nat.le_antisymm (key b3 a4 b2) (key a3 b4 a2)
  subst e
  have e2 : l1 = l2 := by rw [a1, b1]
  subst e2
  refine ⟨rfl, fun i hi => ?_⟩
  by_cases z : l1 - 1 - i < n
  · have h1 := a5 _ z
    have h2 := b5 _ z
    rw [show l1 - 1 - (l1 - 1 - i) = i by omega] at h1 h2
    rw [h1, h2]
  · cases b
    · rw [if_neg Bool.false_ne_true] at a1
      omega
    · rw [if_pos rfl] at a1
      have hi0 : i = 0 := by omega
      rw [hi0, a6 rfl, b6 rfl]
theorem tw_1 {b : Bool} {u l : Nat} {g : Nat → Int32} (A : tw_S b u l g) : ∀ i, i < l → ∃ x, x < 128 ∧ g i = nI x := by
  obtain ⟨n, a1, a2, a3, a4, a5, a6⟩ := A
  intro i hi
  by_cases z : l - 1 - i < n
  · have h1 := a5 _ z
    rw [show l - 1 - (l - 1 - i) = i by omega] at h1
    exact ⟨_, by omega, h1⟩
  · cases b
    · rw [if_neg Bool.false_ne_true] at a1
      omega
    · rw [if_pos rfl] at a1
      have hi0 : i = 0 := by omega
      exact ⟨45, by decide, by rw [hi0, a6 rfl]; rfl⟩
end TX2
