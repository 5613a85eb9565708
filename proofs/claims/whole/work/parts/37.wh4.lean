section WH4
/-- a top digit that is not 0 -/
theorem dg_tp {B : Nat} {d : Nat → Nat} {k : Nat} (h : ∀ i, i < k → d i < B) (hv : B ^ k ≤ dg_v B d (k + 1)) : d k ≠ 0 := by
  intro hz
  have h1 := dg_lt (n := k) h
  have h2 : dg_v B d (k + 1) = dg_v B d k + d k * B ^ k := rfl
  rw [hz, Nat.zero_mul] at h2
  omega
theorem dg_us_v {B : Nat} {d : Nat → Nat} {n i x : Nat} (h : n ≤ i) : dg_v B (dg_u d i x) n = dg_v B d n := dg_cg (fun j hj => dg_un (by omega))
theorem dg_mx {B : Nat} {d : Nat → Nat} : ∀ {i : Nat}, (∀ j, j < i → d j + 1 = B) → dg_v B d i + 1 = B ^ i := by
  intro i
  induction i with
  | zero => intro _; rfl
  | succ i ih =>
    intro h
    have h1 := ih (fun j hj => h j (by omega))
    have h2 := h i (by omega)
    show dg_v B d i + d i * B ^ i + 1 = B ^ (i + 1)
    have h3 : B ^ (i + 1) = (d i + 1) * B ^ i := by rw [h2, Nat.pow_succ, Nat.mul_comm]
    rw [h3, Nat.add_mul, Nat.one_mul]
    omega
theorem dg_0 {B : Nat} {d : Nat → Nat} {n : Nat} (h : ∀ i, i < n → d i = 0) : dg_v B d n = 0 := dg_z (n := 0) (Nat.zero_le n) (fun i _ hi => h i hi)
variable {h : ah_H} {w q n : Nat} {ng : Bool} {d : Nat → Nat}
/-- zeros below i -/
def zl_n (d : Nat → Nat) (i : Nat) : Nat → Nat := fun j => if j < i then 0 else d j
theorem zl_s (d : Nat → Nat) (i : Nat) : dg_u (zl_n d i) i 0 = zl_n d (i + 1) := by
  funext j; unfold dg_u zl_n
  by_cases e : j = i
  · subst e; simp
  · rw [if_neg e]
    by_cases e2 : j < i
    · rw [if_pos e2, if_pos (by omega)]
    · rw [if_neg e2, if_neg (by omega)]
theorem s_addOne_a (Hq : wq_S h w q) (hn : n ≤ 258) (hd : ∀ i, d i < 4294967296) {xt : Nat → Int32 → ah_H → Prop} {K : ah_H → Prop}
    (hx : ∀ i, i ≤ n → (∀ j, j < i → d j + 1 = 4294967296) → (i < n → d i + 1 ≠ 4294967296) → xt w (nI i) (wd_S h w q n ng (zl_n d i))) :
    ∀ (k i : Nat), n = i + k → (∀ j, j < i → d j + 1 = 4294967296) → ∃ m, lp_WH_addOne_2 xt K m w (nI i) (wd_S h w q n ng (zl_n d i)) := by
  intro k
  induction k with
  | zero =>
    intro i hi hj
    refine ⟨0 + 1, ?_⟩
    rw [lp_WH_addOne_2]
    refine ⟨Hq.1, fun _ => hx i (by omega) hj (fun z => by omega), fun hc => absurd ?_ hc⟩
    rw [show ah_I (wd_S h w q n ng (zl_n d i)) 0 w = nI n from ws_I0]
    exact nI_le (by omega) (by omega)
  | succ k ih =>
    intro i hi hj
    have e0 : ah_I (wd_S h w q n ng (zl_n d i)) 0 w = nI n := ws_I0
    have eb : ah_bL (wd_S h w q n ng (zl_n d i)) q (nI i).toNatClampNeg = lN (d i) := by
      rw [nI_clamp (by omega), show ah_bL (wd_S h w q n ng (zl_n d i)) q = lw_n (zl_n d i) from ws_b]
      show lN (zl_n d i i) = _
      unfold zl_n
      rw [if_neg (by omega)]
    have hdi := hd i
    have em : lN (d i) = (4294967295 : Int64) ↔ d i + 1 = 4294967296 := by
      rw [show (4294967295 : Int64) = lN 4294967295 from rfl, pk_lEQ (by omega) (by decide)]
      omega
    have hvi : vp_in (nI i) (ah_N (wd_S h w q n ng (zl_n d i)) q) := by
      rw [show ah_N (wd_S h w q n ng (zl_n d i)) q = 258 from Hq.2.2.2]
      exact vp_in_nI (by omega) (by decide)
    by_cases hm : d i + 1 = 4294967296
    · obtain ⟨m, hm2⟩ := ih (i + 1) (by omega) (fun j hj2 => by
        by_cases e : j = i
        · rw [e]; exact hm
        · exact hj j (by omega))
      refine ⟨m + 1, ?_⟩
      rw [lp_WH_addOne_2]
      refine ⟨Hq.1, fun hc => absurd hc ?_, fun _ => ⟨q, Hq.2.1, Hq.2.2.1, hvi, fun h1 => ?_, fun h1 => ⟨q, Hq.2.1, Hq.2.2.1, hvi, fun h16 e16 v21 e21 => ?_⟩⟩⟩
      · rw [e0]; exact nI_ge (by omega) (by omega)
      · rw [eb] at h1; exact absurd (em.mpr hm) h1
      · rw [e16, e21, nI_1, nI_clamp (by omega), lN0, wh_up (wh_wd Hq), wd_wd, zl_s]
        exact hm2
    · refine ⟨0 + 1, ?_⟩
      rw [lp_WH_addOne_2]
      refine ⟨Hq.1, fun hc => absurd hc ?_, fun _ => ⟨q, Hq.2.1, Hq.2.2.1, hvi, fun h1 => hx i (by omega) hj (fun _ => hm), fun h1 => ?_⟩⟩
      · rw [e0]; exact nI_ge (by omega) (by omega)
      · rw [eb] at h1; exact absurd (em.mp h1) hm
theorem dg_inc {B : Nat} {d e : Nat → Nat} {i N : Nat} (hi : i < N) (h1 : ∀ j, j < i → d j + 1 = B) (h2 : ∀ j, j < i → e j = 0) (h3 : e i = d i + 1) (h4 : ∀ j, i < j → j < N → e j = d j) : dg_v B e N = dg_v B d N + 1 := by
  obtain ⟨k, rfl⟩ : ∃ k, N = (i + 1) + k := ⟨N - (i + 1), by omega⟩
  rw [dg_sp (i + 1) k, dg_sp (i + 1) k]
  have e1 : dg_v B (fun j => e (i + 1 + j)) k = dg_v B (fun j => d (i + 1 + j)) k := dg_cg (fun j hj => h4 _ (by omega) (by omega))
  rw [e1]
  have e2 : dg_v B e (i + 1) = dg_v B d (i + 1) + 1 := by
    show dg_v B e i + e i * B ^ i = dg_v B d i + d i * B ^ i + 1
    rw [dg_0 h2, h3, Nat.add_mul, Nat.one_mul]
    have := dg_mx h1
    omega
  omega
/-- addOne() -/
theorem s_addOne (H : wh_S h w q n ng d) (C : cn_D d n) (hn : n < 258) {K : ah_H → Prop}
    (hK : ∀ (n' : Nat) (d' : Nat → Nat), cn_D d' n' → dg_v 4294967296 d' n' = dg_v 4294967296 d n + 1 → K (wd_S h w q n' ng d')) : w_WH_addOne w h K := by
  have Hq := H.1
  unfold w_WH_addOne
  have e00 : zl_n d 0 = d := by funext j; simp [zl_n]
  have hx : ∀ i, i ≤ n → (∀ j, j < i → d j + 1 = 4294967296) → (i < n → d i + 1 ≠ 4294967296) → bk_WH_addOne_36 K w (nI i) (wd_S h w q n ng (zl_n d i)) := by
    intro i hi hj hne
    have Hz : wh_S (wd_S h w q n ng (zl_n d i)) w q n ng (zl_n d i) := wh_wd Hq
    have hdi := C.1 i
    have hvi : vp_in (nI i) (ah_N (wd_S h w q n ng (zl_n d i)) q) := by
      rw [show ah_N (wd_S h w q n ng (zl_n d i)) q = 258 from Hq.2.2.2]
      exact vp_in_nI (by omega) (by decide)
    refine ⟨fun h1 => ?_, fun _ => ⟨Hq.1, q, Hq.2.1, Hq.2.2.1, hvi, fun v35 e35 => ⟨hvi, fun h37 e37 v41 e41 h42 e42 => ?_⟩⟩⟩
    · have := (nI_leI (a := 258) (b := i) (by decide) (by omega)).mp h1
      omega
    · have ez : zl_n d i i = d i := by unfold zl_n; rw [if_neg (by omega)]
      rw [e35, nI_clamp (by omega), Hz.2.2.2, show lw_n (zl_n d i) i = lN (zl_n d i i) from rfl, ez, lN_1] at e37
      rw [show vp_updL (lw_n (zl_n d i)) i (lN (d i + 1)) = vp_updL (ah_bL (wd_S h w q n ng (zl_n d i)) q) i (lN (d i + 1)) by rw [Hz.2.2.2], wh_up Hz, wd_wd] at e37
      have H37 : wh_S h37 w q n ng (dg_u (zl_n d i) i (d i + 1)) := by rw [e37]; exact wh_wd Hq
      have ev : v41 = nI (if n < i + 1 then i + 1 else n) := by
        rw [e41, H37.2.1, show (1 : Int32) = nI 1 from rfl, nI_add]
        by_cases hlt : n < i + 1
        · rw [if_pos hlt, if_pos ((nI_ltI (by omega) (by omega)).mpr hlt)]
        · rw [if_neg hlt, if_neg (fun z => hlt ((nI_ltI (by omega) (by omega)).mp z))]
      have hd1 : d i + 1 < 4294967296 := by
        by_cases hin : i < n
        · have := hne hin; omega
        · have := C.2.1 i (by omega); omega
      rw [e42, wh_s0 H37, ev, e37]
      show K (ws_S (wd_S h w q n ng _) w q _ _ _)
      unfold wd_S
      rw [ws_ws]
      refine hK (if n < i + 1 then i + 1 else n) (dg_u (zl_n d i) i (d i + 1)) ⟨?_, ?_, ?_, ?_⟩ ?_
      · intro j
        by_cases e : j = i
        · rw [e, dg_us]; exact hd1
        · rw [dg_un e]; unfold zl_n; split
          · decide
          · exact C.1 j
      · intro j hj
        have h5 : n ≤ j ∧ i < j := by split at hj <;> omega
        rw [dg_un (by omega)]; unfold zl_n; rw [if_neg (by omega)]
        exact C.2.1 j h5.1
      · right
        by_cases hlt : n < i + 1
        · rw [if_pos hlt, Nat.add_sub_cancel, dg_us]; omega
        · rw [if_neg hlt]
          by_cases e : n - 1 = i
          · rw [e, dg_us]; omega
          · rw [dg_un e]; unfold zl_n; rw [if_neg (by omega)]
            rcases C.2.2.1 with z | z
            · omega
            · exact z
      · split <;> omega
      · have hN : dg_v 4294967296 d (if n < i + 1 then i + 1 else n) = dg_v 4294967296 d n := dg_z (by split <;> omega) (fun j hj _ => C.2.1 j hj)
        rw [← hN]
        refine dg_inc (i := i) (by split <;> omega) hj (fun j hj2 => ?_) dg_us (fun j hj2 _ => ?_)
        · rw [dg_un (by omega)]; unfold zl_n; rw [if_pos hj2]
        · rw [dg_un (by omega)]; unfold zl_n; rw [if_neg (by omega)]
  have key := s_addOne_a (n := n) (d := d) (ng := ng) (xt := fun (x22 : Nat) (x23 : Int32) h24 => bk_WH_addOne_36 K x22 x23 h24) (K := K) Hq (by omega) C.1 hx n 0 (by omega) (fun j hj => absurd hj (by omega))
  rw [e00, ← wh_eq H] at key
  exact key
end WH4
