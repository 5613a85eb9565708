section MP6
variable {h : ah_H} {m : Nat} {A : Nat × Nat × Nat} {D Z : Nat → Nat} {G : Nat → Int32} {B : Nat × Nat} {z : Nat → Int} {tl wl : Nat} {f : Nat → Nat} {g : Nat → Int32}
theorem cI_sI {p k a : Nat} {F : Nat → Int32} {v : Int32} : ah_cI (ah_sI h k a v) p F = ah_sI (ah_cI h p F) k a v := by
  apply ah_ext
  · rw [cI_T, sI_T, sI_T, cI_T]
  · rw [cI_N, sI_N, sI_N, cI_N]
  · rw [cI_I, sI_I, sI_I, cI_I]
  · rw [cI_L, sI_L, sI_L, cI_L]
  · rw [cI_R, sI_R, sI_R, cI_R]
  · rw [cI_bI, sI_bI, sI_bI, cI_bI]
  · rw [cI_bL, sI_bL, sI_bL, cI_bL]
  · rw [cI_bR, sI_bR, sI_bR, cI_bR]
theorem cI_mh {p : Nat} {F : Nat → Int32} (h1 : p ≠ A.1) (h2 : p ≠ A.2.1) (h3 : p ≠ A.2.2) : ah_cI (mh_S h A D Z G) p F = mh_S (ah_cI h p F) A D Z G := by
  unfold mh_S
  rw [cI_cm h3.symm, cI_cm h2.symm, cI_cm h1.symm]
/-- the text so far -/
def sy_S (b : ah_H) (m p w : Nat) (F : Nat → Int32) : ah_H := ah_sI (ah_cI b p F) 6 m (nI w)
theorem sy_Q {p w : Nat} {F : Nat → Int32} (Q : mo_Q h m A) : mo_Q (sy_S h m p w F) m A := by
  unfold mo_Q sy_S at *
  rw [sI_T, sI_N, sI_R, cI_T, cI_N, cI_R]; exact Q
theorem s_say (Q : mo_Q h m A) {p w : Nat} {F : Nat → Int32} (r : ah_R h 17 m = some p) (t : ah_T h p = 100) (n : ah_N h p = 2600) (hw : w < 2600) (n1 : p ≠ A.1) (n2 : p ≠ A.2.1) (n3 : p ≠ A.2.2) {c : Int32} {K : ah_H → Prop} (hK : K (mh_S (sy_S h m p (w + 1) (upd F w c)) A D Z G)) : w_MO_say m c (mh_S (sy_S h m p w F) A D Z G) K := by
  have e6 : ah_I (mh_S (sy_S h m p w F) A D Z G) 6 m = nI w := by rw [mh_I]; unfold sy_S; rw [sI_I]; exact u2_s _ _ _ _
  have eb : ah_bI (mh_S (sy_S h m p w F) A D Z G) p = F := by rw [mh_o n1 n2 n3]; unfold sy_S; rw [sI_bI, cI_bI]; exact va_up_self _ _ _
  refine ⟨(mh_Q (sy_Q Q)).1, p, ?_, ?_, ?_, fun h8 e8 v12 e12 h13 e13 => ?_⟩
  · rw [mh_R]; unfold sy_S; rw [sI_R, cI_R]; exact r
  · rw [mh_T]; unfold sy_S; rw [sI_T, cI_T]; exact t
  · rw [e6, mh_N]; unfold sy_S; rw [sI_N, cI_N, n]; exact vp_in_nI hw (by decide)
  · rw [e6, eb, nI_clamp (by omega), cI_mh n1 n2 n3] at e8
    have e8' : h8 = mh_S (ah_sI (ah_cI h p (upd F w c)) 6 m (nI w)) A D Z G := by
      rw [e8]
      unfold sy_S
      rw [cI_sI, cI_cI]
    have e7 : ah_I h8 6 m = nI w := by rw [e8', mh_I, sI_I]; exact u2_s _ _ _ _
    rw [e7, show nI w + (1 : Int32) = nI (w + 1) from nI_1 _] at e12
    rw [e12, e8', mh_sI, sI_sI] at e13
    rw [e13]
    exact hK
def tv_S (b : Bool) (P w : Nat) (F : Nat → Int32) : Prop := (P = 0 ∧ w = (if b then 1 else 0) ∧ (b = true → F 0 = 45)) ∨ (P ≠ 0 ∧ tw_S b P w F)
theorem tv_app {b : Bool} {P w d : Nat} {F : Nat → Int32} (H : tv_S b P w F) (hd : d < 10) (h0 : P * 10 + d ≠ 0) : tv_S b (P * 10 + d) (w + 1) (upd F w (nI (48 + d))) := by
  refine Or.inr ⟨h0, ?_⟩
  rcases H with ⟨e0, ew, es⟩ | ⟨e0, n, a1, a2, a3, a4, a5, a6⟩
  · subst e0
    refine ⟨1, by rw [ew, Nat.add_comm], by omega, Nat.le_refl _, Or.inl rfl, fun j hj => ?_, fun hb => ?_⟩
    · have : j = 0 := by omega
      subst this
      rw [show w + 1 - 1 - 0 = w by omega, pk_us]
      congr 1
      rw [Nat.pow_zero, Nat.div_one]
      omega
    · have hw : w = 1 := by rw [ew, hb]; rfl
      rw [hw, pk_un (by decide)]; exact es hb
  · have hw1 : 1 ≤ w := by omega
    refine ⟨n + 1, by rw [a1]; omega, by rw [Nat.pow_succ]; omega, by omega, Or.inr ?_, fun j hj => ?_, fun hb => ?_⟩
    · rw [Nat.add_sub_cancel]
      rcases a4 with y | y
      · rw [y, Nat.pow_one]; omega
      · obtain ⟨k, rfl⟩ : ∃ k, n = k + 1 := ⟨n - 1, by omega⟩
        rw [Nat.add_sub_cancel] at y
        rw [Nat.pow_succ]; omega
    · rcases Nat.eq_zero_or_pos j with y | y
      · subst y
        rw [show w + 1 - 1 - 0 = w by omega, pk_us]
        congr 1
        rw [Nat.pow_zero, Nat.div_one]
        omega
      · obtain ⟨i, rfl⟩ : ∃ i, j = i + 1 := ⟨j - 1, by omega⟩
        have hin : i < n := by omega
        have e1 : (P * 10 + d) / 10 ^ (i + 1) = P / 10 ^ i := by
          rw [Nat.pow_succ, Nat.mul_comm (10 ^ i) 10, ← Nat.div_div_eq_div_mul]
          congr 1
          omega
        have hnw : n ≤ w := by rw [a1]; omega
        rw [e1, show w + 1 - 1 - (i + 1) = w - 1 - i by omega, pk_un (by omega)]
        exact a5 i hin
    · rw [pk_un (by omega)]; exact a6 hb
theorem tv_w {b : Bool} {P w : Nat} {F : Nat → Int32} (H : tv_S b P w F) (hP : P < lim_N) : w ≤ 2468 := by
  rcases H with ⟨_, ew, _⟩ | ⟨_, n, a1, a2, a3, a4, _⟩
  · rw [ew]; split <;> omega
  · have hn : n ≤ 2467 := by
      rcases a4 with y | y
      · omega
      · have := dd_l (Nat.lt_trans hP lim_2467) y
        omega
    rw [a1]; split <;> omega
theorem wl_1 {P v : Nat} : P * 1000 + v / 10 ≤ P * 10000 + v := by omega
theorem wl_2 {P v : Nat} : P * 100 + v / 100 ≤ P * 10000 + v := by omega
theorem wl_3 {P v : Nat} : P * 10 + v / 1000 ≤ P * 10000 + v := by omega
theorem wl_4 {P v : Nat} : P ≤ P * 10000 + v := by omega
theorem wn_1 {P v : Nat} : (P * 1000 + v / 10) * 10 + v % 10 = P * 10000 + v := by omega
theorem wn_2 {P v : Nat} : (P * 100 + v / 100) * 10 + v / 10 % 10 = P * 1000 + v / 10 := by omega
theorem wn_3 {P v : Nat} : (P * 10 + v / 1000) * 10 + v / 100 % 10 = P * 100 + v / 100 := by omega
theorem wz_1 {P v : Nat} (h : P ≠ 0 ∨ v ≠ 0) : (P * 1000 + v / 10) * 10 + v % 10 ≠ 0 := by omega
theorem wz_2 {P v : Nat} (h : P ≠ 0 ∨ 9 < v) : (P * 100 + v / 100) * 10 + v / 10 % 10 ≠ 0 := by omega
theorem wz_3 {P v : Nat} (h : P ≠ 0 ∨ 99 < v) : (P * 10 + v / 1000) * 10 + v / 100 % 10 ≠ 0 := by omega
theorem wz_4 {P v : Nat} (h : P ≠ 0 ∨ 999 < v) : P * 10 + v / 1000 ≠ 0 := by omega
theorem wo_1 {P v : Nat} (h : P ≠ 0 ∨ 9 < v) : P ≠ 0 ∨ v ≠ 0 := by omega
theorem s_wr_a (Q : mo_Q h m A) {p : Nat} (r : ah_R h 17 m = some p) (t : ah_T h p = 100) (nn : ah_N h p = 2600) (n1 : p ≠ A.1) (n2 : p ≠ A.2.1) (n3 : p ≠ A.2.2) {a u : Nat} {b : Bool} (ha : a < 18) (H : mr_D D Z a u) (hu : u < lim_N) {xt : Nat → ah_H → Prop} {K : Int32 → ah_H → Prop}
    (hx : ∀ (w : Nat) (F : Nat → Int32), tv_S b u w F → xt m (mh_S (sy_S h m p w F) A D Z G)) :
    ∀ (i w : Nat) (F : Nat → Int32), i ≤ Z a → tv_S b (du_v 10000 (ro_n D a) i (Z a)) w F → lp_MO_write_58 xt K (i + 1) m (nI a) (nI i - 1) (mh_S (sy_S h m p w F) A D Z G) := by
  have hz := H.1
  have say : ∀ {w : Nat} {F : Nat → Int32} {c : Int32} {K' : ah_H → Prop}, w < 2600 → K' (mh_S (sy_S h m p (w + 1) (upd F w c)) A D Z G) → w_MO_say m c (mh_S (sy_S h m p w F) A D Z G) K' := fun hw hk => s_say Q r t nn hw n1 n2 n3 hk
  have T5 : ∀ {w : Nat} {F : Nat → Int32}, ah_T (mh_S (sy_S h m p w F) A D Z G) m = 5 := fun {w F} => (mh_Q (sy_Q Q)).1
  intro i
  induction i with
  | zero =>
    intro w F _ hv
    rw [lp_MO_write_58]
    refine ⟨fun _ => hx w F ?_, fun hc => absurd (by decide) hc⟩
    rw [du_0, ← H.2.2.2] at hv
    exact hv
  | succ i ih =>
    intro w F hi hv
    have hd := H.2.1 i (by omega)
    obtain ⟨v, ev⟩ : ∃ v, v = ro_n D a i := ⟨_, rfl⟩
    obtain ⟨P, eP⟩ : ∃ P, P = du_v 10000 (ro_n D a) (i + 1) (Z a) := ⟨_, rfl⟩
    have eN : du_v 10000 (ro_n D a) i (Z a) = P * 10000 + v := by rw [du_s (show i < Z a by omega), ← eP, ← ev]; omega
    have hPu : P * 10000 + v ≤ u := by
      have h1 := du_sp (B := 10000) (d := ro_n D a) (i := i) (n := Z a) (by omega)
      have h2 : du_v 10000 (ro_n D a) i (Z a) ≤ 10000 ^ i * du_v 10000 (ro_n D a) i (Z a) := Nat.le_mul_of_pos_left _ (Nat.pow_pos (by decide))
      rw [← eN, H.2.2.2, h1]
      omega
    have hbnd : ∀ {x w : Nat} {F : Nat → Int32}, tv_S b x w F → x ≤ P * 10000 + v → w < 2600 := fun hx hxl => by
      have := tv_w hx (Nat.lt_of_le_of_lt (Nat.le_trans hxl hPu) hu)
      omega
    rw [← eP] at hv
    rw [← ev] at hd
    -- the top place is where nothing is said yet
    have top : ∀ tb : Bool, (tb = true ↔ i = Z a - 1) → (tb = true → P = 0 ∧ v ≠ 0) ∧ (tb = false → P ≠ 0) := by
      intro tb htb
      refine ⟨fun e => ?_, fun e => ?_⟩
      · have h1 := htb.mp e
        refine ⟨?_, ?_⟩
        · rw [eP, show i + 1 = Z a by omega, du_n]
        · rcases H.2.2.1 with y | y
          · omega
          · rw [ev, h1]; exact y
      · have h1 : i ≠ Z a - 1 := fun y => by rw [htb.mpr y] at e; exact absurd e (by decide)
        rw [eP]
        intro y
        have h2 : 10000 ^ (Z a - (i + 1) - 1) ≤ du_v 10000 (ro_n D a) (i + 1) (Z a) := by
          unfold du_v
          obtain ⟨k, hk⟩ : ∃ k, Z a - (i + 1) = k + 1 := ⟨Z a - (i + 1) - 1, by omega⟩
          rw [hk, Nat.add_sub_cancel]
          refine dg_ge (n := k) ?_
          rcases H.2.2.1 with y | y
          · omega
          · rw [show i + 1 + k = Z a - 1 by omega]; exact y
        have h3 : 0 < (10000 : Nat) ^ (Z a - (i + 1) - 1) := Nat.pow_pos (by decide)
        have h4 : du_v 10000 (ro_n D a) (i + 1) (Z a) = 0 := y
        omega
    -- the four digits
    have e162 : ∀ (w : Nat) (F : Nat → Int32), tv_S b (P * 1000 + v / 10) w F → (P ≠ 0 ∨ v ≠ 0) → bk_MO_write_162 (lp_MO_write_58 xt K (i + 1)) K m (nI a) (nI i) (nI v) (mh_S (sy_S h m p w F) A D Z G) := by
      intro w F h1 h2
      have e1 : (48 : Int32) + (nI v - nI v / (10 : Int32) * (10 : Int32)) = nI (48 + v % 10) := by
        rw [show nI v - nI v / (10 : Int32) * (10 : Int32) = nI (v % 10) from pk_rem (d := 10) (by omega) (by decide) (by decide)]
        exact nI_add 48 _
      refine ⟨T5, ?_⟩
      rw [e1]
      refine say (hbnd h1 wl_1) (fun _ v112 e112 => ?_)
      rw [e112, ← Int32.sub_eq_add_neg]
      refine ih _ _ (by omega) ?_
      rw [eN]
      have := tv_app h1 (d := v % 10) (Nat.mod_lt _ (by decide)) (wz_1 h2)
      rw [wn_1] at this
      exact this
    have e148 : ∀ (w : Nat) (F : Nat → Int32), tv_S b (P * 100 + v / 100) w F → (P ≠ 0 ∨ 9 < v) → bk_MO_write_148 (lp_MO_write_58 xt K (i + 1)) K m (nI a) (nI i) (nI v) (mh_S (sy_S h m p w F) A D Z G) := by
      intro w F h1 h2
      have e1 : (48 : Int32) + ((nI v / (10 : Int32)) - (nI v / (10 : Int32)) / (10 : Int32) * (10 : Int32)) = nI (48 + v / 10 % 10) := by
        rw [show nI v / (10 : Int32) = nI (v / 10) from pk_div (d := 10) (by omega) (by decide) (by decide), show nI (v / 10) - nI (v / 10) / (10 : Int32) * (10 : Int32) = nI (v / 10 % 10) from pk_rem (d := 10) (by omega) (by decide) (by decide)]
        exact nI_add 48 _
      refine ⟨T5, ?_⟩
      rw [e1]
      refine say (hbnd h1 wl_2) (fun _ => e162 _ _ ?_ (wo_1 h2))
      have := tv_app h1 (d := v / 10 % 10) (Nat.mod_lt _ (by decide)) (wz_2 h2)
      rw [wn_2] at this
      exact this
    have e137 : ∀ (tb : Bool) (w : Nat) (F : Nat → Int32), (tb = true → P = 0 ∧ v ≠ 0) → (tb = false → P ≠ 0) → tv_S b (P * 100 + v / 100) w F → bk_MO_write_137 (lp_MO_write_58 xt K (i + 1)) K m (nI a) (nI i) (nI v) (bi_n tb) (mh_S (sy_S h m p w F) A D Z G) := by
      intro tb w F c1 c2 h1
      refine ⟨fun e => e148 w F h1 (Or.inl (c2 (bi_0.mp e))), fun e => ?_⟩
      have c3 := c1 (by cases tb; exact absurd rfl e; rfl)
      refine ⟨fun hl => e162 w F ?_ (Or.inr c3.2), fun hl => e148 w F h1 (Or.inr ?_)⟩
      · have := (nI_leI (b := 9) (by omega) (by decide)).mp hl
        rw [c3.1, show v / 10 = v / 100 by omega] 
        rw [c3.1] at h1
        rw [show 0 * 1000 + v / 100 = 0 * 100 + v / 100 by omega]
        exact h1
      · exact Nat.lt_of_not_le (fun y => hl (nI_le (b := 9) y (by decide)))
    have e123 : ∀ (tb : Bool) (w : Nat) (F : Nat → Int32), (tb = true → P = 0 ∧ v ≠ 0) → (tb = false → P ≠ 0) → tv_S b (P * 10 + v / 1000) w F → (P ≠ 0 ∨ 99 < v) → bk_MO_write_123 (lp_MO_write_58 xt K (i + 1)) K m (nI a) (nI i) (nI v) (bi_n tb) (mh_S (sy_S h m p w F) A D Z G) := by
      intro tb w F c1 c2 h1 h2
      have e1 : (48 : Int32) + ((nI v / (100 : Int32)) - (nI v / (100 : Int32)) / (10 : Int32) * (10 : Int32)) = nI (48 + v / 100 % 10) := by
        rw [show nI v / (100 : Int32) = nI (v / 100) from pk_div (d := 100) (by omega) (by decide) (by decide), show nI (v / 100) - nI (v / 100) / (10 : Int32) * (10 : Int32) = nI (v / 100 % 10) from pk_rem (d := 10) (by omega) (by decide) (by decide)]
        exact nI_add 48 _
      refine ⟨T5, ?_⟩
      rw [e1]
      refine say (hbnd h1 wl_3) (fun _ => e137 tb _ _ c1 c2 ?_)
      have := tv_app h1 (d := v / 100 % 10) (Nat.mod_lt _ (by decide)) (wz_3 h2)
      rw [wn_3] at this
      exact this
    have e112 : ∀ (tb : Bool) (w : Nat) (F : Nat → Int32), (tb = true → P = 0 ∧ v ≠ 0) → (tb = false → P ≠ 0) → tv_S b (P * 10 + v / 1000) w F → bk_MO_write_112 (lp_MO_write_58 xt K (i + 1)) K m (nI a) (nI i) (nI v) (bi_n tb) (mh_S (sy_S h m p w F) A D Z G) := by
      intro tb w F c1 c2 h1
      refine ⟨fun e => e123 tb w F c1 c2 h1 (Or.inl (c2 (bi_0.mp e))), fun e => ?_⟩
      have c3 := c1 (by cases tb; exact absurd rfl e; rfl)
      refine ⟨fun hl => e137 tb w F c1 c2 ?_, fun hl => e123 tb w F c1 c2 h1 (Or.inr ?_)⟩
      · have := (nI_leI (b := 99) (by omega) (by decide)).mp hl
        rw [c3.1] at h1 ⊢
        rw [show 0 * 100 + v / 100 = 0 * 10 + v / 1000 by omega]
        exact h1
      · exact Nat.lt_of_not_le (fun y => hl (nI_le (b := 99) y (by decide)))
    have e100 : ∀ (tb : Bool) (w : Nat) (F : Nat → Int32), (tb = true → P = 0 ∧ v ≠ 0) → (tb = false → P ≠ 0) → tv_S b P w F → (P ≠ 0 ∨ 999 < v) → bk_MO_write_100 (lp_MO_write_58 xt K (i + 1)) K m (nI a) (nI i) (nI v) (bi_n tb) (mh_S (sy_S h m p w F) A D Z G) := by
      intro tb w F c1 c2 h1 h2
      have e1 : (48 : Int32) + (nI v / (1000 : Int32)) = nI (48 + v / 1000) := by
        rw [show nI v / (1000 : Int32) = nI (v / 1000) from pk_div (d := 1000) (by omega) (by decide) (by decide)]
        exact nI_add 48 _
      refine ⟨T5, ?_⟩
      rw [e1]
      exact say (hbnd h1 wl_4) (fun _ => e112 tb _ _ c1 c2 (tv_app h1 (Nat.div_lt_of_lt_mul (by omega)) (wz_4 h2)))
    have e86 : ∀ (tb : Bool), (tb = true → P = 0 ∧ v ≠ 0) → (tb = false → P ≠ 0) → bk_MO_write_86 (lp_MO_write_58 xt K (i + 1)) K m (nI a) (nI i) (nI v) (bi_n tb) (mh_S (sy_S h m p w F) A D Z G) := by
      intro tb c1 c2
      refine ⟨fun e => e100 tb w F c1 c2 hv (Or.inl (c2 (bi_0.mp e))), fun e => ?_⟩
      have c3 := c1 (by cases tb; exact absurd rfl e; rfl)
      refine ⟨fun hl => e112 tb w F c1 c2 ?_, fun hl => e100 tb w F c1 c2 hv (Or.inr ?_)⟩
      · have := (nI_leI (b := 999) (by omega) (by decide)).mp hl
        rw [c3.1] at hv ⊢
        rw [show 0 * 10 + v / 1000 = 0 by omega]
        exact hv
      · exact Nat.lt_of_not_le (fun y => hl (nI_le (b := 999) y (by decide)))
    rw [nI_m1 (n := i + 1) (by omega), Nat.add_sub_cancel, lp_MO_write_58]
    refine ⟨fun hc => absurd hc (nI_pos (by omega)), fun _ => ⟨T5, s_mat (sy_Q Q) ha (by omega) H.1 (fun _ => ⟨A.2.1, (mh_Q (sy_Q Q)).2.1.2.1, (mh_Q (sy_Q Q)).2.2.1.2.1, in_z (sy_Q Q) ha, ?_⟩)⟩⟩
    rw [gz_k (sy_Q Q) ha, nI_m1 (by omega), rd_ro (by omega), ← ev]
    refine ⟨fun hne => ?_, fun he => ?_⟩
    · have htb : (false = true ↔ i = Z a - 1) := ⟨fun y => Bool.noConfusion y, fun y => absurd (by rw [y]) hne⟩
      have := top false htb
      exact e86 false this.1 this.2
    · have htb : (true = true ↔ i = Z a - 1) := ⟨fun _ => (nI_eq (by omega) (by omega)).mp he, fun _ => rfl⟩
      have := top true htb
      exact e86 true this.1 this.2
end MP6
