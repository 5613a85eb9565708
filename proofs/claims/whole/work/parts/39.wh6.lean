section WH6
/-- the digits from i on, as one number -/
def du_v (B : Nat) (d : Nat → Nat) (i n : Nat) : Nat := dg_v B (fun j => d (i + j)) (n - i)
theorem du_n {B : Nat} {d : Nat → Nat} {n : Nat} : du_v B d n n = 0 := by unfold du_v; rw [Nat.sub_self]; rfl
theorem du_0 {B : Nat} {d : Nat → Nat} {n : Nat} : du_v B d 0 n = dg_v B d n := by unfold du_v; simp
theorem dg_hd {B : Nat} {d : Nat → Nat} (k : Nat) : dg_v B d (k + 1) = d 0 + B * dg_v B (fun j => d (1 + j)) k := by
  rw [Nat.add_comm k 1, dg_sp 1 k]
  show 0 + d 0 * B ^ 0 + B ^ 1 * _ = _
  rw [Nat.pow_zero, Nat.pow_one, Nat.mul_one, Nat.zero_add]
theorem du_s {B : Nat} {d : Nat → Nat} {i n : Nat} (h : i < n) : du_v B d i n = d i + B * du_v B d (i + 1) n := by
  unfold du_v
  rw [show n - i = (n - (i + 1)) + 1 by omega, dg_hd]
  have : (fun j => d (i + (1 + j))) = (fun j => d (i + 1 + j)) := funext fun j => by rw [Nat.add_assoc]
  rw [this, Nat.add_zero]
theorem du_cg {B : Nat} {d e : Nat → Nat} {i n : Nat} (h : ∀ j, i ≤ j → j < n → d j = e j) : du_v B d i n = du_v B e i n := dg_cg (fun j hj => h _ (by omega) (by omega))
theorem du_sp {B : Nat} {d : Nat → Nat} {i n : Nat} (h : i ≤ n) : dg_v B d n = dg_v B d i + B ^ i * du_v B d i n := by
  obtain ⟨k, rfl⟩ : ∃ k, n = i + k := ⟨n - i, by omega⟩
  rw [dg_sp i k]
  unfold du_v
  rw [Nat.add_sub_cancel_left]
/-- one step of a short division, from the top -/
theorem sd_step {B a r U Q D : Nat} (ha : 0 < a) (inv : U = Q * a + r) : D + B * U = ((r * B + D) / a + B * Q) * a + (r * B + D) % a := by
  have h1 := Nat.div_add_mod (r * B + D) a
  rw [Nat.add_mul, Nat.mul_comm ((r * B + D) / a) a, inv, Nat.mul_add, Nat.mul_assoc, Nat.mul_comm B r]
  omega
theorem tk_lt {r x : Nat} (hr : r < 1000000000) (hx : x < 4294967296) : r * 4294967296 + x < 4294967296000000000 ∧ (r * 4294967296 + x) / 1000000000 < 4294967296 := by
  refine ⟨by omega, ?_⟩
  apply Nat.div_lt_of_lt_mul
  omega
variable {h : ah_H} {w q n : Nat} {ng : Bool} {d : Nat → Nat}
theorem s_take_a (Hq : wq_S h w q) (hn : n ≤ 258) (hd : ∀ i, d i < 4294967296) {xt : Nat → Int64 → ah_H → Prop} {K : Int64 → ah_H → Prop}
    (hx : ∀ (e : Nat → Nat) (r : Nat), (∀ j, e j < 4294967296) → (∀ j, n ≤ j → e j = d j) → r < 1000000000 → dg_v 4294967296 d n = dg_v 4294967296 e n * 1000000000 + r → xt w (lN r) (wd_S h w q n ng e)) :
    ∀ (i : Nat) (e : Nat → Nat) (r : Nat), i ≤ n → (∀ j, e j < 4294967296) → (∀ j, j < i → e j = d j) → (∀ j, n ≤ j → e j = d j) → r < 1000000000 → du_v 4294967296 d i n = du_v 4294967296 e i n * 1000000000 + r → ∃ m, lp_WH_takeChunk_9 xt K m w (lN r) (nI i - 1) (wd_S h w q n ng e) := by
  intro i
  induction i with
  | zero =>
    intro e r _ h1 _ h2 h3 h4
    rw [du_0, du_0] at h4
    refine ⟨0 + 1, ?_⟩
    rw [lp_WH_takeChunk_9]
    exact ⟨fun _ => hx e r h1 h2 h3 h4, fun hc => absurd (by decide) hc⟩
  | succ i ih =>
    intro e r hi h1 h1' h2 h3 h4
    have H : wh_S (wd_S h w q n ng e) w q n ng e := wh_wd Hq
    have ei : nI (i + 1) - (1 : Int32) = nI i := nI_m1 (n := i + 1) (by omega)
    have hei : e i = d i := h1' i (by omega)
    obtain ⟨b1, b2⟩ := tk_lt h3 (hd i)
    have hvi : vp_in (nI i) (ah_N (wd_S h w q n ng e) q) := by
      rw [show ah_N (wd_S h w q n ng e) q = 258 from Hq.2.2.2]
      exact vp_in_nI (by omega) (by decide)
    have hdu : du_v 4294967296 d i n = du_v 4294967296 (dg_u e i ((r * 4294967296 + d i) / 1000000000)) i n * 1000000000 + (r * 4294967296 + d i) % 1000000000 := by
      rw [du_s (show i < n by omega), du_s (d := dg_u e i _) (show i < n by omega), dg_us, du_cg (d := dg_u e i _) (e := e) (i := i + 1) (fun j hj _ => dg_un (by omega))]
      exact sd_step (by decide) h4
    obtain ⟨m, hm⟩ := ih (dg_u e i ((r * 4294967296 + d i) / 1000000000)) ((r * 4294967296 + d i) % 1000000000) (by omega) (fun j => by
        by_cases z : j = i
        · rw [z, dg_us]; exact b2
        · rw [dg_un z]; exact h1 j) (fun j hj => by rw [dg_un (by omega)]; exact h1' j (by omega)) (fun j hj => by rw [dg_un (by omega)]; exact h2 j hj) (Nat.mod_lt _ (by decide)) hdu
    rw [ei]
    refine ⟨m + 1, ?_⟩
    rw [lp_WH_takeChunk_9]
    refine ⟨fun hc => absurd hc (nI_pos (by omega)), fun _ => ⟨Hq.1, q, Hq.2.1, Hq.2.2.1, hvi, fun v14 e14 => ⟨q, Hq.2.1, fun v17 e17 => ⟨Hq.2.2.1, hvi, fun h20 e20 v25 e25 v26 e26 => ?_⟩⟩⟩⟩
    have ev : v14 = lN (r * 4294967296 + d i) := by
      rw [e14, nI_clamp (by omega), H.2.2.2]
      show lN r <<< ((32 : Int32).toInt64 &&& 63) ||| lN (e i) = _
      rw [lo_eq (h1 i) (by omega), hei]
    generalize r * 4294967296 + d i = s at ev b1 b2 hm
    rw [ev, show (1000000000 : Int64) = lN 1000000000 from rfl, pk_lDiv (by omega) (by decide) (by decide)] at e17
    rw [ev, show (1000000000 : Int64) = lN 1000000000 from rfl, pk_lRem (by omega) (by decide) (by decide)] at e25
    rw [e17, nI_clamp (by omega), wh_up H, wd_wd] at e20
    rw [e20, e25, e26, ← Int32.sub_eq_add_neg]
    exact hm
/-- takeChunk(): the number divided by a thousand million; the rest is the answer -/
theorem s_takeChunk (H : wh_S h w q n ng d) (C : cn_D d n) {K : Int64 → ah_H → Prop}
    (hK : ∀ (n' : Nat) (d' : Nat → Nat), cn_D d' n' → dg_v 4294967296 d' n' = dg_v 4294967296 d n / 1000000000 → K (lN (dg_v 4294967296 d n % 1000000000)) (wd_S h w q n' ng d')) : w_WH_takeChunk w h K := by
  have Hq := H.1
  have hn := C.2.2.2
  unfold w_WH_takeChunk
  refine ⟨Hq.1, fun v3 e3 => ?_⟩
  rw [e3, H.2.1, lN0]
  have key := s_take_a (h := h) (n := n) (d := d) (ng := ng) (K := K) Hq hn C.1 (xt := fun (x27 : Nat) (x28 : Int64) h29 => ah_T h29 x27 = 3 ∧ w_WH_settle x27 (ah_I h29 0 x27) h29 (fun h31 => ah_m h29 h31 → K x28 h31)) (fun e r h1 h2 h3 h4 => by
    have He : wh_S (wd_S h w q n ng e) w q n ng e := wh_wd Hq
    refine ⟨Hq.1, ?_⟩
    rw [He.2.1]
    refine s_settle He hn hn (fun i => Nat.lt_trans (h1 i) (by decide)) (fun _ => ?_)
    rw [zr_0 (Nat.le_refl n), wd_wd]
    have hd : dg_v 4294967296 e n = dg_v 4294967296 d n / 1000000000 := by omega
    have hm : r = dg_v 4294967296 d n % 1000000000 := by omega
    rw [hm]
    refine hK (tr_n e n) e (cn_tr h1 (fun i hi => by rw [h2 i hi]; exact C.2.1 i hi) hn) ?_
    rw [tr_v]
    exact hd)
    n d 0 (Nat.le_refl n) C.1 (fun _ _ => rfl) (fun _ _ => rfl) (by decide) (by rw [du_n])
  rw [← wh_eq H] at key
  exact key
end WH6
