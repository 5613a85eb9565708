section WH5
theorem mc_step {B a c s c0 i : Nat} {d e : Nat → Nat} (hs : s = d i * a + c) (inv : dg_v B e i + c * B ^ i = a * dg_v B d i + c0) : dg_v B (dg_u e i (s % B)) (i + 1) + s / B * B ^ (i + 1) = a * dg_v B d (i + 1) + c0 := by
  have e1 : dg_v B (dg_u e i (s % B)) (i + 1) = dg_v B e i + s % B * B ^ i := by
    show dg_v B (dg_u e i (s % B)) i + dg_u e i (s % B) i * B ^ i = _
    rw [dg_us_v (Nat.le_refl i), dg_us]
  have e2 : dg_v B d (i + 1) = dg_v B d i + d i * B ^ i := rfl
  have e3 : s / B * B ^ (i + 1) = (B * (s / B)) * B ^ i := by rw [Nat.pow_succ, Nat.mul_comm (B ^ i) B, ← Nat.mul_assoc, Nat.mul_comm (s / B) B]
  have e4 : s % B * B ^ i + (B * (s / B)) * B ^ i = s * B ^ i := by rw [← Nat.add_mul, Nat.mod_add_div]
  have e5 : s * B ^ i = a * (d i * B ^ i) + c * B ^ i := by rw [hs, Nat.add_mul, Nat.mul_comm (d i) a, Nat.mul_assoc]
  rw [e1, e2, e3, Nat.mul_add]
  omega
theorem st_le {x c : Nat} (hx : x < 4294967296) (hc : c ≤ 1000000000) : x * 1000000000 + c ≤ 4294967296000000000 := by omega
variable {h : ah_H} {w q n : Nat} {ng : Bool} {d : Nat → Nat}
theorem s_append_a (Hq : wq_S h w q) (hn : n ≤ 258) (hd : ∀ i, d i < 4294967296) {c0 : Nat} {xt : Nat → Int64 → ah_H → Prop} {K : ah_H → Prop}
    (hx : ∀ (e : Nat → Nat) (c : Nat), (∀ j, j < n → e j < 4294967296) → (∀ j, n ≤ j → e j = d j) → c ≤ 1000000000 → dg_v 4294967296 e n + c * 4294967296 ^ n = 1000000000 * dg_v 4294967296 d n + c0 → xt w (lN c) (wd_S h w q n ng e)) :
    ∀ (k i : Nat) (e : Nat → Nat) (c : Nat), n = i + k → (∀ j, j < i → e j < 4294967296) → (∀ j, i ≤ j → e j = d j) → c ≤ 1000000000 → dg_v 4294967296 e i + c * 4294967296 ^ i = 1000000000 * dg_v 4294967296 d i + c0 → ∃ m, lp_WH_appendChunk_5 xt K m w (lN c) (nI i) (wd_S h w q n ng e) := by
  intro k
  induction k with
  | zero =>
    intro i e c hi h1 h2 h3 h4
    have e0 : i = n := by omega
    subst e0
    refine ⟨0 + 1, ?_⟩
    rw [lp_WH_appendChunk_5]
    refine ⟨Hq.1, fun _ => hx e c h1 h2 h3 h4, fun hc => absurd ?_ hc⟩
    rw [show ah_I (wd_S h w q i ng e) 0 w = nI i from ws_I0]
    exact nI_le (Nat.le_refl i) (by omega)
  | succ k ih =>
    intro i e c hi h1 h2 h3 h4
    have hdi := hd i
    have hei : e i = d i := h2 i (Nat.le_refl i)
    have H : wh_S (wd_S h w q n ng e) w q n ng e := wh_wd Hq
    have hvi : vp_in (nI i) (ah_N (wd_S h w q n ng e) q) := by
      rw [show ah_N (wd_S h w q n ng e) q = 258 from Hq.2.2.2]
      exact vp_in_nI (by omega) (by decide)
    have hs : d i * 1000000000 + c ≤ 4294967296000000000 := st_le hdi h3
    obtain ⟨m, hm⟩ := ih (i + 1) (dg_u e i ((d i * 1000000000 + c) % 4294967296)) ((d i * 1000000000 + c) / 4294967296) (by omega) (fun j hj => by
        by_cases z : j = i
        · rw [z, dg_us]; exact Nat.mod_lt _ (by decide)
        · rw [dg_un z]; exact h1 j (by omega)) (fun j hj => by rw [dg_un (by omega)]; exact h2 j (by omega)) (by omega) (mc_step rfl h4)
    refine ⟨m + 1, ?_⟩
    rw [lp_WH_appendChunk_5]
    refine ⟨Hq.1, fun hc => absurd hc ?_, fun _ => ⟨q, Hq.2.1, Hq.2.2.1, hvi, fun v13 e13 => ⟨q, Hq.2.1, fun v16 e16 => ⟨Hq.2.2.1, hvi, fun h19 e19 v24 e24 v25 e25 => ?_⟩⟩⟩⟩
    · rw [H.2.1]; exact nI_ge (by omega) (by omega)
    · have ev : v13 = lN (d i * 1000000000 + c) := by
        rw [e13, nI_clamp (by omega), H.2.2.2]
        show lN (e i) * lN 1000000000 + lN c = _
        rw [lN_mul, lN_add, hei]
      generalize d i * 1000000000 + c = s at ev hs hm
      rw [ev, ms_k (by omega)] at e16
      rw [e16, nI_clamp (by omega), wh_up H, wd_wd] at e19
      rw [e19, e24, e25, ev, sh_k (by omega), nI_1]
      exact hm
/-- appendChunk(chunk): times a thousand million, and the chunk -/
theorem s_appendChunk (H : wh_S h w q n ng d) (C : cn_D d n) {c0 : Nat} (hc0 : c0 < 1000000000) (hfit : 1000000000 * dg_v 4294967296 d n + c0 < 4294967296 ^ 258) {K : ah_H → Prop}
    (hK : ∀ (n' : Nat) (d' : Nat → Nat), cn_D d' n' → dg_v 4294967296 d' n' = 1000000000 * dg_v 4294967296 d n + c0 → K (wd_S h w q n' ng d')) : w_WH_appendChunk w (lN c0) h K := by
  have Hq := H.1
  have hn := C.2.2.2
  unfold w_WH_appendChunk
  have key := s_append_a (h := h) (n := n) (d := d) (ng := ng) (c0 := c0) (K := K) Hq hn C.1 (xt := fun (x26 : Nat) (x27 : Int64) h28 => (x27 ≤ (0 : Int64) → (bk_WH_appendChunk_90 K h28)) ∧ (¬ x27 ≤ (0 : Int64) → (ah_T h28 x26 = 3 ∧ ((258 : Int32) ≤ (ah_I h28 0 x26) → (bk_WH_appendChunk_90 K h28)) ∧ (¬ (258 : Int32) ≤ (ah_I h28 0 x26) → (∃ q33, ah_R h28 5 x26 = some q33 ∧ ah_T h28 q33 = 110 ∧ vp_in (ah_I h28 0 x26) (ah_N h28 q33) ∧ ∀ h37 : ah_H, h37 = ah_cL h28 q33 (vp_updL (ah_bL h28 q33) (ah_I h28 0 x26).toNatClampNeg x27) → ∀ v41 : Int32, v41 = (ah_I h37 0 x26) + (1 : Int32) → ∀ h42 : ah_H, h42 = ah_sI h37 0 x26 v41 → bk_WH_appendChunk_90 K h42))))) (fun e c h1 h2 h3 h4 => by
    have He : wh_S (wd_S h w q n ng e) w q n ng e := wh_wd Hq
    have hlt := dg_lt (n := n) h1
    refine ⟨fun hz => ?_, fun hz => ⟨Hq.1, fun hs => ?_, fun hs => ⟨q, Hq.2.1, Hq.2.2.1, ?_, fun h37 e37 v41 e41 h42 e42 => ?_⟩⟩⟩
    · have hc : c = 0 := by
        rw [lN0, pk_lLE (by omega) (by decide)] at hz
        omega
      rw [hc, Nat.zero_mul, Nat.add_zero] at h4
      refine hK n e ⟨fun j => ?_, fun j hj => ?_, ?_, hn⟩ h4
      · by_cases hj : j < n
        · exact h1 j hj
        · rw [h2 j (by omega)]; exact C.1 j
      · rw [h2 j hj]; exact C.2.1 j hj
      · rcases Nat.eq_zero_or_pos n with z | z
        · exact Or.inl z
        · right
          obtain ⟨k, rfl⟩ : ∃ k, n = k + 1 := ⟨n - 1, by omega⟩
          have hne : d k ≠ 0 := by
            rcases C.2.2.1 with y | y
            · omega
            · simpa using y
          have h5 := dg_ge (B := 4294967296) hne
          exact dg_tp (k := k) (fun j hj => h1 j (by omega)) (by omega)
    · exfalso
      rw [He.2.1] at hs
      have h5 := (nI_leI (a := 258) (b := n) (by decide) (by omega)).mp hs
      have h6 : n = 258 := by omega
      have hc : 0 < c := by
        rcases Nat.eq_zero_or_pos c with z | z
        · exact absurd (by rw [z]; exact (pk_lLE (a := 0) (b := 0) (by decide) (by decide)).mpr (Nat.le_refl 0)) hz
        · exact z
      rw [h6] at h4 hfit
      have h7 : 1 * 4294967296 ^ 258 ≤ c * 4294967296 ^ 258 := Nat.mul_le_mul_right _ hc
      omega
    · rw [He.2.1, show ah_N (wd_S h w q n ng e) q = 258 from Hq.2.2.2]
      rw [He.2.1] at hs
      exact vp_in_nI (Nat.lt_of_not_le (fun z => hs ((nI_leI (a := 258) (b := n) (by decide) (by omega)).mpr z))) (by decide)
    · rw [He.2.1] at hs
      have hn2 : n < 258 := Nat.lt_of_not_le (fun z => hs ((nI_leI (a := 258) (b := n) (by decide) (by omega)).mpr z))
      have hc : 0 < c := by
        rcases Nat.eq_zero_or_pos c with z | z
        · exact absurd (by rw [z]; exact (pk_lLE (a := 0) (b := 0) (by decide) (by decide)).mpr (Nat.le_refl 0)) hz
        · exact z
      rw [He.2.1, nI_clamp (by omega), wh_up He, wd_wd] at e37
      have H37 : wh_S h37 w q n ng (dg_u e n c) := by rw [e37]; exact wh_wd Hq
      rw [e42, wh_s0 H37, e41, H37.2.1, show (1 : Int32) = nI 1 from rfl, nI_add, e37]
      show bk_WH_appendChunk_90 K (ws_S (wd_S h w q n ng (dg_u e n c)) w q (nI (n + 1)) (bi_n ng) (lw_n (dg_u e n c)))
      unfold wd_S
      rw [ws_ws]
      refine hK (n + 1) (dg_u e n c) ⟨fun j => ?_, fun j hj => ?_, Or.inr ?_, by omega⟩ ?_
      · by_cases z : j = n
        · rw [z, dg_us]; omega
        · rw [dg_un z]
          by_cases hj : j < n
          · exact h1 j hj
          · rw [h2 j (by omega)]; exact C.1 j
      · rw [dg_un (by omega), h2 j (by omega)]; exact C.2.1 j (by omega)
      · rw [Nat.add_sub_cancel, dg_us]; omega
      · show dg_v 4294967296 (dg_u e n c) n + dg_u e n c n * 4294967296 ^ n = _
        rw [dg_us_v (Nat.le_refl n), dg_us]
        exact h4)
    n 0 d c0 (by omega) (fun j hj => absurd hj (by omega)) (fun j _ => rfl) (by omega) (by simp [dg_v])
  rw [← wh_eq H] at key
  exact key
end WH5
